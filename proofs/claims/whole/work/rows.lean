section
-- ===== PART A: goes FIRST, ahead of the names: the tables' words, and 'selects' of the private methods out of them =====
/-- a private method of a class that the tables say can be made, by its rows of tables_1 -/
def lw_okq (q : MethodName × Nat) : Prop := (q.1.cls ≠ "java/lang/invoke/MethodHandle" ∧ q.1.cls ≠ "java/lang/invoke/VarHandle") ∧ Cond.instantiable q.1.cls q.2 ∈ tables_1 ∧ Cond.privateMethod q.1 ∈ tables_1 ∧ Cond.instanceMethod q.1 ∈ tables_1
theorem lw_p0 : lw_okq (⟨"MembranePlant", "passPresent", "(Z)V"⟩, 7) := ⟨⟨by decide +kernel, by decide +kernel⟩, List.mem_of_getElem? (i := 23) (by decide +kernel), List.mem_of_getElem? (i := 269) (by decide +kernel), List.mem_of_getElem? (i := 270) (by decide +kernel)⟩
theorem lw_p1 : lw_okq (⟨"MembranePlant$State", "goOnCleaning", "(I)V"⟩, 13) := ⟨⟨by decide +kernel, by decide +kernel⟩, List.mem_of_getElem? (i := 83) (by decide +kernel), List.mem_of_getElem? (i := 283) (by decide +kernel), List.mem_of_getElem? (i := 284) (by decide +kernel)⟩
theorem lw_p2 : lw_okq (⟨"MembranePlant$State", "runTrain", "(LMembranePlant$Settings;I)I"⟩, 13) := ⟨⟨by decide +kernel, by decide +kernel⟩, List.mem_of_getElem? (i := 83) (by decide +kernel), List.mem_of_getElem? (i := 290) (by decide +kernel), List.mem_of_getElem? (i := 291) (by decide +kernel)⟩
theorem lw_p3 : lw_okq (⟨"MembranePlant$State", "pour", "(LMembranePlant$Settings;)V"⟩, 13) := ⟨⟨by decide +kernel, by decide +kernel⟩, List.mem_of_getElem? (i := 83) (by decide +kernel), List.mem_of_getElem? (i := 310) (by decide +kernel), List.mem_of_getElem? (i := 311) (by decide +kernel)⟩
theorem lw_p4 : lw_okq (⟨"MembranePlant$State", "serve", "(LMembranePlant$Settings;I)V"⟩, 13) := ⟨⟨by decide +kernel, by decide +kernel⟩, List.mem_of_getElem? (i := 83) (by decide +kernel), List.mem_of_getElem? (i := 314) (by decide +kernel), List.mem_of_getElem? (i := 315) (by decide +kernel)⟩
theorem lw_p5 : lw_okq (⟨"MembranePlant$Orders", "find", "(I)I"⟩, 3) := ⟨⟨by decide +kernel, by decide +kernel⟩, List.mem_of_getElem? (i := 144) (by decide +kernel), List.mem_of_getElem? (i := 326) (by decide +kernel), List.mem_of_getElem? (i := 327) (by decide +kernel)⟩
theorem lw_p6 : lw_okq (⟨"java/lang/Throwable", "fillInStackTrace", "(I)Ljava/lang/Throwable;"⟩, 6) := ⟨⟨by decide +kernel, by decide +kernel⟩, List.mem_of_getElem? (i := 417) (by decide +kernel), List.mem_of_getElem? (i := 415) (by decide +kernel), List.mem_of_getElem? (i := 416) (by decide +kernel)⟩
theorem lw_p7 : lw_okq (⟨"MembranePlant", "checkTrain", "(I)V"⟩, 7) := ⟨⟨by decide +kernel, by decide +kernel⟩, List.mem_of_getElem? (i := 23) (by decide +kernel), List.mem_of_getElem? (i := 494) (by decide +kernel), List.mem_of_getElem? (i := 495) (by decide +kernel)⟩
theorem lw_p8 : lw_okq (⟨"MembranePlant", "checkReady", "(I)V"⟩, 7) := ⟨⟨by decide +kernel, by decide +kernel⟩, List.mem_of_getElem? (i := 23) (by decide +kernel), List.mem_of_getElem? (i := 533) (by decide +kernel), List.mem_of_getElem? (i := 534) (by decide +kernel)⟩
theorem lw_p9 : lw_okq (⟨"MembranePlant", "checkTank", "(I)V"⟩, 7) := ⟨⟨by decide +kernel, by decide +kernel⟩, List.mem_of_getElem? (i := 23) (by decide +kernel), List.mem_of_getElem? (i := 607) (by decide +kernel), List.mem_of_getElem? (i := 608) (by decide +kernel)⟩
theorem lw_p10 : lw_okq (⟨"MembranePlant$Planner", "isAsOrdered", "(II)Z"⟩, 8) := ⟨⟨by decide +kernel, by decide +kernel⟩, List.mem_of_getElem? (i := 161) (by decide +kernel), List.mem_of_getElem? (i := 679) (by decide +kernel), List.mem_of_getElem? (i := 680) (by decide +kernel)⟩
theorem lw_p11 : lw_okq (⟨"MembranePlant$Planner", "canPass", "(II)Z"⟩, 8) := ⟨⟨by decide +kernel, by decide +kernel⟩, List.mem_of_getElem? (i := 161) (by decide +kernel), List.mem_of_getElem? (i := 683) (by decide +kernel), List.mem_of_getElem? (i := 684) (by decide +kernel)⟩
theorem lw_p12 : lw_okq (⟨"MembranePlantModel", "isTrain", "(I)Z"⟩, 34) := ⟨⟨by decide +kernel, by decide +kernel⟩, List.mem_of_getElem? (i := 809) (by decide +kernel), List.mem_of_getElem? (i := 935) (by decide +kernel), List.mem_of_getElem? (i := 936) (by decide +kernel)⟩
theorem lw_p13 : lw_okq (⟨"MembranePlantModel", "of", "(II)I"⟩, 34) := ⟨⟨by decide +kernel, by decide +kernel⟩, List.mem_of_getElem? (i := 809) (by decide +kernel), List.mem_of_getElem? (i := 955) (by decide +kernel), List.mem_of_getElem? (i := 956) (by decide +kernel)⟩
theorem lw_p14 : lw_okq (⟨"MembranePlantModel", "gives", "(I)I"⟩, 34) := ⟨⟨by decide +kernel, by decide +kernel⟩, List.mem_of_getElem? (i := 809) (by decide +kernel), List.mem_of_getElem? (i := 975) (by decide +kernel), List.mem_of_getElem? (i := 976) (by decide +kernel)⟩
theorem lw_p15 : lw_okq (⟨"MembranePlantModel", "needs", "(I)I"⟩, 34) := ⟨⟨by decide +kernel, by decide +kernel⟩, List.mem_of_getElem? (i := 809) (by decide +kernel), List.mem_of_getElem? (i := 986) (by decide +kernel), List.mem_of_getElem? (i := 987) (by decide +kernel)⟩
def lw_privs_1 : List (MethodName × Nat) := [(⟨"MembranePlant", "passPresent", "(Z)V"⟩, 7), (⟨"MembranePlant$State", "goOnCleaning", "(I)V"⟩, 13), (⟨"MembranePlant$State", "runTrain", "(LMembranePlant$Settings;I)I"⟩, 13), (⟨"MembranePlant$State", "pour", "(LMembranePlant$Settings;)V"⟩, 13), (⟨"MembranePlant$State", "serve", "(LMembranePlant$Settings;I)V"⟩, 13), (⟨"MembranePlant$Orders", "find", "(I)I"⟩, 3), (⟨"java/lang/Throwable", "fillInStackTrace", "(I)Ljava/lang/Throwable;"⟩, 6), (⟨"MembranePlant", "checkTrain", "(I)V"⟩, 7), (⟨"MembranePlant", "checkReady", "(I)V"⟩, 7), (⟨"MembranePlant", "checkTank", "(I)V"⟩, 7), (⟨"MembranePlant$Planner", "isAsOrdered", "(II)Z"⟩, 8), (⟨"MembranePlant$Planner", "canPass", "(II)Z"⟩, 8), (⟨"MembranePlantModel", "isTrain", "(I)Z"⟩, 34), (⟨"MembranePlantModel", "of", "(II)I"⟩, 34), (⟨"MembranePlantModel", "gives", "(I)I"⟩, 34), (⟨"MembranePlantModel", "needs", "(I)I"⟩, 34)]
theorem lw_r1 : ∀ q ∈ lw_privs_1, lw_okq q := List.forall_mem_cons.mpr ⟨lw_p0, List.forall_mem_cons.mpr ⟨lw_p1, List.forall_mem_cons.mpr ⟨lw_p2, List.forall_mem_cons.mpr ⟨lw_p3, List.forall_mem_cons.mpr ⟨lw_p4, List.forall_mem_cons.mpr ⟨lw_p5, List.forall_mem_cons.mpr ⟨lw_p6, List.forall_mem_cons.mpr ⟨lw_p7, List.forall_mem_cons.mpr ⟨lw_p8, List.forall_mem_cons.mpr ⟨lw_p9, List.forall_mem_cons.mpr ⟨lw_p10, List.forall_mem_cons.mpr ⟨lw_p11, List.forall_mem_cons.mpr ⟨lw_p12, List.forall_mem_cons.mpr ⟨lw_p13, List.forall_mem_cons.mpr ⟨lw_p14, List.forall_mem_cons.mpr ⟨lw_p15, fun _ h => absurd h List.not_mem_nil⟩⟩⟩⟩⟩⟩⟩⟩⟩⟩⟩⟩⟩⟩⟩⟩
theorem lw_p16 : lw_okq (⟨"MembranePlantModel", "takes", "(I)I"⟩, 34) := ⟨⟨by decide +kernel, by decide +kernel⟩, List.mem_of_getElem? (i := 809) (by decide +kernel), List.mem_of_getElem? (i := 990) (by decide +kernel), List.mem_of_getElem? (i := 991) (by decide +kernel)⟩
theorem lw_p17 : lw_okq (⟨"MembranePlantModel", "isTank", "(I)Z"⟩, 34) := ⟨⟨by decide +kernel, by decide +kernel⟩, List.mem_of_getElem? (i := 809) (by decide +kernel), List.mem_of_getElem? (i := 1009) (by decide +kernel), List.mem_of_getElem? (i := 1010) (by decide +kernel)⟩
theorem lw_p18 : lw_okq (⟨"MembranePlantModel", "passes", "(Z)V"⟩, 34) := ⟨⟨by decide +kernel, by decide +kernel⟩, List.mem_of_getElem? (i := 809) (by decide +kernel), List.mem_of_getElem? (i := 1034) (by decide +kernel), List.mem_of_getElem? (i := 1035) (by decide +kernel)⟩
theorem lw_p19 : lw_okq (⟨"MembranePlantModel", "goes", "(IZ)Z"⟩, 34) := ⟨⟨by decide +kernel, by decide +kernel⟩, List.mem_of_getElem? (i := 809) (by decide +kernel), List.mem_of_getElem? (i := 1038) (by decide +kernel), List.mem_of_getElem? (i := 1039) (by decide +kernel)⟩
theorem lw_p20 : lw_okq (⟨"MembranePlantModel", "cleans", "(I)V"⟩, 34) := ⟨⟨by decide +kernel, by decide +kernel⟩, List.mem_of_getElem? (i := 809) (by decide +kernel), List.mem_of_getElem? (i := 1042) (by decide +kernel), List.mem_of_getElem? (i := 1043) (by decide +kernel)⟩
theorem lw_p21 : lw_okq (⟨"MembranePlantModel", "works", "(I)V"⟩, 34) := ⟨⟨by decide +kernel, by decide +kernel⟩, List.mem_of_getElem? (i := 809) (by decide +kernel), List.mem_of_getElem? (i := 1047) (by decide +kernel), List.mem_of_getElem? (i := 1048) (by decide +kernel)⟩
theorem lw_p22 : lw_okq (⟨"MembranePlantModel", "orderAt", "(I)I"⟩, 34) := ⟨⟨by decide +kernel, by decide +kernel⟩, List.mem_of_getElem? (i := 809) (by decide +kernel), List.mem_of_getElem? (i := 1051) (by decide +kernel), List.mem_of_getElem? (i := 1052) (by decide +kernel)⟩
theorem lw_p23 : lw_okq (⟨"MembranePlantModel", "forgets", "(I)V"⟩, 34) := ⟨⟨by decide +kernel, by decide +kernel⟩, List.mem_of_getElem? (i := 809) (by decide +kernel), List.mem_of_getElem? (i := 1055) (by decide +kernel), List.mem_of_getElem? (i := 1056) (by decide +kernel)⟩
theorem lw_p24 : lw_okq (⟨"MembranePlantModel", "looks", "(I)V"⟩, 34) := ⟨⟨by decide +kernel, by decide +kernel⟩, List.mem_of_getElem? (i := 809) (by decide +kernel), List.mem_of_getElem? (i := 1064) (by decide +kernel), List.mem_of_getElem? (i := 1065) (by decide +kernel)⟩
theorem lw_p25 : lw_okq (⟨"MembranePlantModel", "laysBack", "([I[I)V"⟩, 34) := ⟨⟨by decide +kernel, by decide +kernel⟩, List.mem_of_getElem? (i := 809) (by decide +kernel), List.mem_of_getElem? (i := 1068) (by decide +kernel), List.mem_of_getElem? (i := 1069) (by decide +kernel)⟩
theorem lw_p26 : lw_okq (⟨"MembranePlantModel", "isAllowed", "(II)Z"⟩, 34) := ⟨⟨by decide +kernel, by decide +kernel⟩, List.mem_of_getElem? (i := 809) (by decide +kernel), List.mem_of_getElem? (i := 1072) (by decide +kernel), List.mem_of_getElem? (i := 1073) (by decide +kernel)⟩
def lw_privs_2 : List (MethodName × Nat) := [(⟨"MembranePlantModel", "takes", "(I)I"⟩, 34), (⟨"MembranePlantModel", "isTank", "(I)Z"⟩, 34), (⟨"MembranePlantModel", "passes", "(Z)V"⟩, 34), (⟨"MembranePlantModel", "goes", "(IZ)Z"⟩, 34), (⟨"MembranePlantModel", "cleans", "(I)V"⟩, 34), (⟨"MembranePlantModel", "works", "(I)V"⟩, 34), (⟨"MembranePlantModel", "orderAt", "(I)I"⟩, 34), (⟨"MembranePlantModel", "forgets", "(I)V"⟩, 34), (⟨"MembranePlantModel", "looks", "(I)V"⟩, 34), (⟨"MembranePlantModel", "laysBack", "([I[I)V"⟩, 34), (⟨"MembranePlantModel", "isAllowed", "(II)Z"⟩, 34)]
theorem lw_r2 : ∀ q ∈ lw_privs_2, lw_okq q := List.forall_mem_cons.mpr ⟨lw_p16, List.forall_mem_cons.mpr ⟨lw_p17, List.forall_mem_cons.mpr ⟨lw_p18, List.forall_mem_cons.mpr ⟨lw_p19, List.forall_mem_cons.mpr ⟨lw_p20, List.forall_mem_cons.mpr ⟨lw_p21, List.forall_mem_cons.mpr ⟨lw_p22, List.forall_mem_cons.mpr ⟨lw_p23, List.forall_mem_cons.mpr ⟨lw_p24, List.forall_mem_cons.mpr ⟨lw_p25, List.forall_mem_cons.mpr ⟨lw_p26, fun _ h => absurd h List.not_mem_nil⟩⟩⟩⟩⟩⟩⟩⟩⟩⟩⟩
def lw_privs : List (MethodName × Nat) := lw_privs_1 ++ (lw_privs_2)
def lw_tbl : List Cond := k2_sels lw_privs ++ tables_1
theorem lw_privs_ok : ∀ q ∈ lw_privs, lw_okq q := by
  show ∀ q ∈ lw_privs_1 ++ (lw_privs_2), lw_okq q
  exact List.forall_mem_append.mpr ⟨lw_r1, lw_r2⟩
/-- the streams that the claim lets the run draw from -/
abbrev lw_cs : List Choice := [Jvm.Choice.named "NaN.bits"]
theorem lw_bits : nanBits ∈ lw_cs := by first | decide | exact List.mem_cons_self | simp [lw_cs, nanBits]
def va_AOA (ty : FieldType) (U : State) : Prop := (Cond.arrayOver (.array ty)).before #[] U = true
theorem va_AOA.of {ty : FieldType} {A : Array Value} {U : State} (h : (Cond.arrayOver (.array ty)).before A U = true) : va_AOA ty U := h
theorem va_AOA.use {ty : FieldType} {A : Array Value} {U : State} (h : va_AOA ty U) : (Cond.arrayOver (.array ty)).before A U = true := h
theorem va_AOA.moved {ty : FieldType} {s U : State} (hvm : s.vm.Alike U.vm) (h : va_AOA ty s) : va_AOA ty U := by
  have h1 : (Cond.arrayOver (.array ty)).before #[] (s.setVm U.vm) = true := by rw [Cond.arrayOver_setVmC hvm]; exact h
  exact h1
/-! ===== BEGIN words of one list among another's, by their places ===== -/
theorem goodIn_r {big : List Cond} (ws : List Cond) (ps : List Nat) (hp : ws = ps.filterMap (fun i => big[i]?)) (h : ws.all goodWord = true) : GoodIn big ws := by
  intro w hw
  have h1 := List.all_eq_true.mp h w hw
  rw [hp] at hw
  obtain ⟨i, -, hi⟩ := List.mem_filterMap.mp hw
  have hm : w ∈ big := by first | exact List.mem_of_getElem? hi | exact List.getElem?_mem hi
  exact ⟨hm, good_of_word h1⟩
theorem goodIn_app {big a b : List Cond} (ha : GoodIn big a) (hb : GoodIn big b) : GoodIn big (a ++ b) := fun w h => (List.mem_append.mp h).elim (ha w) (hb w)
theorem goodIn_ca {big a b : List Cond} {c : Cond} (ha : GoodIn big (c :: a)) (hb : GoodIn big b) : GoodIn big (c :: (a ++ b)) := fun w h => (List.mem_cons.mp h).elim (fun e => ha w (List.mem_cons.mpr (Or.inl e))) (fun h => (List.mem_append.mp h).elim (fun h => ha w (List.mem_cons.mpr (Or.inr h))) (hb w))
theorem goodIn_sub {big ws : List Cond} (hm : ∀ w ∈ ws, w ∈ big) (h : ws.all goodWord = true) : GoodIn big ws := fun w hw => ⟨hm w hw, good_of_word (List.all_eq_true.mp h w hw)⟩
/-! ===== END ===== -/

/-! ===== BEGIN new T[n][m]: the outer array a place, the inner ones among the pooled ===== -/
/-- f, but v at every address of l -/
def vr_up {α : Type} (f : Nat → α) (l : List Nat) (v : α) : Nat → α := fun a => if a ∈ l then v else f a
theorem vr_up_in {α : Type} {f : Nat → α} {l : List Nat} {v : α} {a : Nat} (h : a ∈ l) : vr_up f l v a = v := if_pos h
theorem vr_up_ne {α : Type} {f : Nat → α} {l : List Nat} {v : α} {a : Nat} (h : a ∉ l) : vr_up f l v a = f a := if_neg h
theorem vr_rows {L l : List Nat} {f : Nat → va_E} {e : va_E} (h : ∀ a, a ∈ l → a ∉ L) : va_pl L f ++ l.map (fun a => (a, e)) = va_pl (L ++ l) (vr_up f l e) := by
  unfold va_pl
  rw [List.map_append]
  congr 1
  · apply List.map_congr_left
    intro a ha
    rw [vr_up_ne (fun q => h a q ha)]
  · apply List.map_congr_left
    intro a ha
    rw [vr_up_in ha]
theorem vr_lay {X rows : va_W} {x : Nat × va_E} {pl : va_W} {D : va_G} {cl : List vw_C} {H : Heap} (hP : va_P D cl (((X ++ pl) ++ [x]) ++ rows) H) : va_P D cl ((X ++ [x]) ++ (pl ++ rows)) H := by
  rw [List.append_assoc (X ++ pl)] at hP
  have h := va_P.swap hP
  rw [← List.append_assoc X] at h
  have h2 := va_P.swap h
  rw [List.append_assoc (X ++ [x])] at h2
  exact h2
theorem vr_layD {X rows : va_W} {x : Nat × va_E} {pl : va_W} {A : Nat → Prop} (hD : va_D A (((X ++ pl) ++ [x]) ++ rows)) : va_D A ((X ++ [x]) ++ (pl ++ rows)) := by
  rw [List.append_assoc (X ++ pl)] at hD
  have h := va_D.swap hD
  rw [← List.append_assoc X] at h
  have h2 := va_D.swap h
  rw [List.append_assoc (X ++ [x])] at h2
  exact h2
theorem vr_outer (c : ClassId) (N h0 : Nat) : ∀ i : Nat, Jvm.Free.Multi.outerC c N h0 i = arrV c N (fun j => va_rf (if j < i then some (h0 + 1 + j) else none))
  | 0 => by
    show ({ cls := c, slots := Array.replicate N .null, vm := .none } : Cell) = _
    rw [arrV_new]
    refine congrArg (arrV c N) (funext fun j => ?_)
    simp [va_rf]
  | i + 1 => by
    show (Jvm.Free.Multi.outerC c N h0 i).setSlot i (.ref (h0 + 1 + i)) = _
    rw [vr_outer c N h0 i, arrV_store]
    refine congrArg (arrV c N) (funext fun j => ?_)
    by_cases e : j = i
    · subst e
      simp [updV, va_rf]
    · by_cases h : j < i
      · simp [updV, e, h, Nat.lt_succ_of_lt h]
      · simp [updV, e, h, show ¬ j < i + 1 by omega]
section VGM
variable {p : Program} {l : Launch} {e : Env} {R : Room} {s : State} {m : MethodId} {args : Array Value} {below : List Frame} {meth : Method} {c : Code} {H : Heap} {locs : List Loc} {cells slots : Nat} {Q : State → Prop}
variable {cc : ByteArray} {pc : Nat} {ls : Array Slot} {rest : List Value} {D : va_G} {cl : List vw_C} {A : Nat → Prop} {a : Nat} {tys : List (ClassId × FieldType)} {ws : va_W} {H0 : Heap}
theorem va_mna {X : va_W} {L : List Nat} {f : Nat → va_E} {cc : ByteArray} (hexec : p.tables.exec = Jvm.exec) (hb : c.code = cc) {own : String} {index : Nat} {ty : FieldType} {cy : ClassId} (hown : s.vm.findClass own = some m.cls) (hclink : (Cond.classLink own index ("[" ++ (FieldType.array ty).toString)).before args s = true) (hover : va_AOA ty s) (harr : (Cond.arrayClass ty).before args s = true) (hcy : s.vm.findClass (FieldType.array ty).toString = some cy)
    (hK : va_K D cl tys s) (hP : va_P D cl (X ++ va_pl L f) H) (hD : va_D A (X ++ va_pl L f)) (hS : va_S A H0 H locs) (hA : ∀ q, H0.size ≤ q → A q) {n k : Int32} {N' K' : Nat} {z : vp_A} (hn : ¬ n < 0) (hk : ¬ k < 0) (hN : n.toNatClampNeg = N') (hM : k.toNatClampNeg = K')
    (hb1 : N' * 4 ≤ 536870912) (hb2 : K' * componentBytes ty ≤ 536870912) (hb3 : K' ≤ 536870912) (hdf : fits ty (defaultValue ty) = true) (hdd : (defaultValue ty).isDefault = true) (hcells : cells + (1 + N') ≤ R.cells) (hslots : slots + (N' + N' * K') ≤ R.slots) (hz : ∀ c : ClassId, Jvm.Free.Multi.innerC c K' (defaultValue ty) = vp_cell c z) (hdg : decode cc pc = .ok (.multianewarray index 2, 4))
    (kk : ∀ (q : Nat) (r : Nat → Nat) (cA : ClassId) (H1 : Heap), (∀ i j : Nat, i < N' → j < N' → r i = r j → i = j) → (∀ i : Nat, i < N' → r i ∉ L) → va_K D cl (tys ++ [(cA, .array ty)]) s →
      va_P D cl ((X ++ [(q, .inl (cA, N', .inr (.inr (.inr (.inr (fun i => if i < N' then some (r i) else none))))))]) ++ va_pl (L ++ (List.range N').map r) (vr_up f ((List.range N').map r) (.inl (cy, z)))) H1 → va_D A ((X ++ [(q, .inl (cA, N', .inr (.inr (.inr (.inr (fun i => if i < N' then some (r i) else none))))))]) ++ va_pl (L ++ (List.range N').map r) (vr_up f ((List.range N').map r) (.inl (cy, z)))) → va_S A H0 H1 locs →
      W p l e R s m args below meth c H1 locs (cells + 1 + N') (slots + N' + N' * K') Q (F0 m (pc + 4) ls (.ref q :: rest))) : W p l e R s m args below meth c H locs cells slots Q (F0 m pc ls (.int k :: .int n :: rest)) := by
  subst hN
  subst hM
  intro T hT Xs
  obtain ⟨vm₁, cA, comp, -, fA, fC, hO, -, X', step⟩ := Xs.multianewarray2F hexec hown hclink (va_AOA.use hover) harr (g := F0 m pc ls (.int k :: .int n :: rest)) rfl (by rw [hb]; exact hdg) rfl hn hk hb1 hb2 hb3 hdf hdd hcells hslots
  have ec : some cy = some comp := hcy.symm.trans fC
  cases ec
  generalize hF : Jvm.Free.Multi.fill (T.setVm vm₁) cA cy n.toNatClampNeg k.toNatClampNeg (defaultValue ty) n.toNatClampNeg = F at X' step
  have hTh : (T.setVm vm₁).heap = H := hT
  obtain ⟨f1, f2, -, -⟩ := Jvm.Free.Multi.fill_facts (T.setVm vm₁) cA cy n.toNatClampNeg k.toNatClampNeg (defaultValue ty) n.toNatClampNeg
  rw [hF, hTh] at f1 f2
  have hold : ∀ x : Nat, x < H.size → F.heap[x]? = H[x]? := fun x hx => by
    have := Jvm.Free.Multi.fill_old (T.setVm vm₁) cA cy n.toNatClampNeg k.toNatClampNeg (defaultValue ty) (a := x) (by rw [hTh]; exact hx) n.toNatClampNeg
    rw [hF, hTh] at this
    exact this
  have hrow : ∀ j : Nat, j < n.toNatClampNeg → F.heap[H.size + 1 + j]? = some (vp_cell cy z) := fun j hj => by
    have := Jvm.Free.Multi.fill_inner (T.setVm vm₁) cA cy n.toNatClampNeg k.toNatClampNeg (defaultValue ty) n.toNatClampNeg j hj
    rw [hF, hTh, hz] at this
    exact this
  have hout : Jvm.Free.Multi.outerC cA n.toNatClampNeg H.size n.toNatClampNeg = vp_cell cA (n.toNatClampNeg, .inr (.inr (.inr (.inr (fun i => if i < n.toNatClampNeg then some (H.size + 1 + i) else none))))) := by
    rw [vp_cell_q]
    exact vr_outer cA n.toNatClampNeg H.size n.toNatClampNeg
  rw [hout] at f2
  have hlt : ∀ a, a ∈ L → a < H.size := fun a ha => by
    obtain ⟨k9, hk9⟩ := va_pl_get (X := X) (f := f) ha
    exact (hP k9 _ hk9).lt
  have hnl : ∀ i : Nat, i < n.toNatClampNeg → H.size + 1 + i ∉ L := fun i _ h => by
    have := hlt _ h
    omega
  have hnm : ∀ a, a ∈ (List.range n.toNatClampNeg).map (fun i => H.size + 1 + i) → a ∉ L := fun a ha h => by
    obtain ⟨i, -, rfl⟩ := List.mem_map.mp ha
    have := hlt _ h
    omega
  have hP0 : va_P D cl (X ++ va_pl L f) F.heap := hP.kept (fun k9 x hx => hold x.1 ((hP k9 x hx).lt))
  have hP1 : va_P D cl ((X ++ va_pl L f) ++ [(H.size, .inl (cA, n.toNatClampNeg, .inr (.inr (.inr (.inr (fun i => if i < n.toNatClampNeg then some (H.size + 1 + i) else none))))))]) F.heap := hP0.app (fun k9 x hx => by
    have h0 : k9 < 1 := (List.getElem?_eq_some_iff.mp hx).1
    rw [show k9 = 0 by omega] at hx
    cases hx
    exact f2)
  have hP2 : va_P D cl (((X ++ va_pl L f) ++ [(H.size, .inl (cA, n.toNatClampNeg, .inr (.inr (.inr (.inr (fun i => if i < n.toNatClampNeg then some (H.size + 1 + i) else none))))))]) ++ ((List.range n.toNatClampNeg).map (fun i => H.size + 1 + i)).map (fun a => (a, .inl (cy, z)))) F.heap := hP1.app (fun k9 x hx => by
    obtain ⟨a, ha, rfl⟩ := List.mem_map.mp (List.mem_of_getElem? hx)
    obtain ⟨i, hi, rfl⟩ := List.mem_map.mp ha
    exact hrow i (List.mem_range.mp hi))
  have hD2 : va_D A (((X ++ va_pl L f) ++ [(H.size, .inl (cA, n.toNatClampNeg, .inr (.inr (.inr (.inr (fun i => if i < n.toNatClampNeg then some (H.size + 1 + i) else none))))))]) ++ ((List.range n.toNatClampNeg).map (fun i => H.size + 1 + i)).map (fun a => (a, .inl (cy, z)))) := by
    have hD1 := hD.push (e := .inl (cA, n.toNatClampNeg, .inr (.inr (.inr (.inr (fun i => if i < n.toNatClampNeg then some (H.size + 1 + i) else none)))))) hP rfl (hA _ hS.1)
    generalize hW1 : (X ++ va_pl L f) ++ [(H.size, .inl (cA, n.toNatClampNeg, .inr (.inr (.inr (.inr (fun i => if i < n.toNatClampNeg then some (H.size + 1 + i) else none))))))] = W1 at hD1 hP1 ⊢
    have hle : ∀ (k9 : Nat) (x : Nat × va_E), W1[k9]? = some x → x.1 ≤ H.size := fun k9 x hx => by
      rw [← hW1] at hx
      by_cases hl : k9 < (X ++ va_pl L f).length
      · rw [List.getElem?_append_left hl] at hx
        exact Nat.le_of_lt ((hP k9 x hx).lt)
      · rw [List.getElem?_append_right (by omega)] at hx
        have h0 : k9 - (X ++ va_pl L f).length < 1 := (List.getElem?_eq_some_iff.mp hx).1
        rw [show k9 - (X ++ va_pl L f).length = 0 by omega] at hx
        cases hx
        exact Nat.le_refl _
    have hr : ∀ (k9 : Nat) (x : Nat × va_E), (((List.range n.toNatClampNeg).map (fun i => H.size + 1 + i)).map (fun a => ((a, .inl (cy, z)) : Nat × va_E)))[k9]? = some x → x.1 = H.size + 1 + k9 := fun k9 x hx => by
      rw [List.getElem?_map, List.getElem?_map] at hx
      by_cases h9 : k9 < n.toNatClampNeg
      · rw [List.getElem?_range h9] at hx
        cases hx
        rfl
      · have hn0 : (List.range n.toNatClampNeg)[k9]? = none := List.getElem?_eq_none (by rw [List.length_range]; omega)
        rw [hn0] at hx
        cases hx
    refine ⟨fun i j x y hi hj hxy => ?_, fun k9 x hx => ?_⟩
    · by_cases h1 : i < W1.length <;> by_cases h2 : j < W1.length
      · rw [List.getElem?_append_left h1] at hi
        rw [List.getElem?_append_left h2] at hj
        exact hD1.1 i j x y hi hj hxy
      · rw [List.getElem?_append_left h1] at hi
        rw [List.getElem?_append_right (by omega)] at hj
        have := hle _ _ hi
        have := hr _ _ hj
        omega
      · rw [List.getElem?_append_right (by omega)] at hi
        rw [List.getElem?_append_left h2] at hj
        have := hle _ _ hj
        have := hr _ _ hi
        omega
      · rw [List.getElem?_append_right (by omega)] at hi hj
        have := hr _ _ hi
        have := hr _ _ hj
        omega
    · by_cases h1 : k9 < W1.length
      · rw [List.getElem?_append_left h1] at hx
        exact hD1.2 k9 x hx
      · rw [List.getElem?_append_right (by omega)] at hx
        have := hr _ _ hx
        exact hA _ (by have := hS.1; omega)
  have hAr : ArrOfT s cA (.array ty) := fun N9 z9 => by
    obtain ⟨-, k9, hk9, cm9, hkk9⟩ := (hO 0 0 0).1
    exact ⟨(fun q hq => by cases hq), k9, hk9, cm9, hkk9⟩
  have hK2 : va_K D cl (tys ++ [(cA, .array ty)]) s := ⟨hK.1, fun k9 x hx => by
    by_cases hl : k9 < tys.length
    · rw [List.getElem?_append_left hl] at hx
      exact hK.2 k9 x hx
    · rw [List.getElem?_append_right (by omega)] at hx
      have h0 : k9 - tys.length < 1 := (List.getElem?_eq_some_iff.mp hx).1
      rw [show k9 - tys.length = 0 by omega] at hx
      cases hx
      exact ⟨hAr, fA⟩⟩
  obtain ⟨t, a1, b1⟩ := kk H.size (fun i => H.size + 1 + i) cA F.heap (fun i j _ _ h => by have h9 : H.size + 1 + i = H.size + 1 + j := h; omega) hnl hK2 (by rw [← vr_rows hnm]; exact vr_lay hP2) (by rw [← vr_rows hnm]; exact vr_layD hD2) ⟨by rw [f1]; have := hS.1; omega, fun x h1 h2 => (hold x (Nat.lt_of_lt_of_le h1 hS.1)).trans (hS.2.1 x h1 h2), hS.2.2⟩ F rfl X'
  refine ⟨t, step t ?_, b1⟩
  have e : T.heap.size = H.size := by rw [hT]
  rw [e]
  exact a1
end VGM
/-! ===== END ===== -/

/-! ===== BEGIN exceptions that leave a method, and their catching by the caller (launches without stack traces) ===== -/
section VXA
/-! The laws vx_back, vx_callV, vx_callS, vx_callSW, vx_throw0, vx_throwS follow proofs of the library, with one case more: JvmDerived/Free/Laws.lean (Back.of_free), Shelf42/LK1.lean (callV, callS), Shelf/KitTraced.lean (throwNew0V, throwNewS). -/
/-- where a method has thrown q: the class by its name, the cell, what was written, the world -/
def vx_T (XC : String → State → State → Prop) (st : State) (q : Addr) (t : State) (mc ms : Nat) (free : Addr → Prop) : Prop :=
  ∃ (E : String) (ce : Cell) (L : List Loc), XC E st t ∧ t.heap[q]? = some ce ∧ ce.vm = .none ∧ st.vm.findClass E = some ce.cls ∧ st.WarmedH t.vm ∧ st.sameButNew ({ t with vm := st.vm } : State) L mc ms ∧ ∀ z ∈ L, free z.base
def vx_Q (Qc : Array Value → State → Outcome → State → Prop) (XC : String → State → State → Prop) (mc ms : Nat) (free : Addr → Prop) : Array Value → State → Outcome → State → Prop := fun a st o t =>
  (Qc a st o t ∧ ∃ L, FrameEnd st o t L mc ms ∧ ∀ q ∈ L, free q.base) ∨ ∃ q, o = .threw q ∧ vx_T XC st q t mc ms free
/-- a callee that returns or throws -/
def vx_Met (l : Launch) (y : MethodName) (ws : List Cond) (rm : Room) (Pc : Array Value → State → Prop) (Qc : Array Value → State → Outcome → State → Prop) (XC : String → State → State → Prop) (mc ms : Nat) (free : Addr → Prop) : Prop :=
  MetFree l y (headSpec ws rm) Pc (fun _ _ _ _ _ => True) (vx_Q Qc XC mc ms free)
def vx_Post (XC : String → State → State → Prop) (mc ms : Nat) (free : Addr → Prop) : Pt → Array Value → Addr → Pt → Prop := fun A a q B =>
  ∃ (g : JFrame) (mk : MethodId) (t : State) (L : List Loc) (E : String) (ce : Cell), B.U.heap = t.heap ∧ B.U.vm = t.vm ∧ XC E (A.U.calling g mk a) t ∧ t.heap[q]? = some ce ∧ ce.vm = .none ∧ A.U.vm.findClass E = some ce.cls ∧ B.locs = A.locs ++ L ∧ (∀ z ∈ L, free z.base) ∧ B.cells = A.cells + mc ∧ B.slots = A.slots + ms
def vx_Back (l : Launch) (R : Room) (p : Program) (e : Env) (below : List Frame) (s : State) (sargs : Array Value) (y : MethodName) (len W9 : Nat)
    (Pre : Pt → Array Value → Prop) (Post : Pt → Array Value → Option Value → Pt → Prop) (PostX : Pt → Array Value → Addr → Pt → Prop) : Prop :=
  ∀ (m : MethodId) (meth : Method) (c : Code) (A : Pt) (g : JFrame) (ig : Instr) (mk : MethodId) (a : Array Value),
    Stand p l e R s m sargs below meth c A.U A.locs A.cells A.slots → g.method = m → g.locals.size = c.maxLocals → decode c.code g.pc = .ok (ig, len) →
    2 * g.monitorRoom + (g.stack.map fun v => v.category).sum ≤ W9 → A.U.methodNamed? y = some mk → Pre A a →
    (∃ (v : Option Value) (B : Pt), Stand p l e R s m sargs below meth c B.U B.locs B.cells B.slots ∧ Post A a v B ∧
      Steps p.tables e below (doInvoke e (A.U.setTop g) [] mk a).1 (B.U.setTop { g with pc := g.pc + len, stack := v.toList ++ g.stack })) ∨
    (∃ (q : Addr) (B : Pt), Stand p l e R s m sargs below meth c B.U B.locs B.cells B.slots ∧ PostX A a q B ∧
      Steps p.tables e below (doInvoke e (A.U.setTop g) [] mk a).1 ((B.U.setTop g).pushFrame (.throwing q)))
section Payer
variable {l : Launch} {R : Room} {p : Program} {e : Env} {below : List Frame} {s : State} {sargs : Array Value} {y : MethodName} {len W9 : Nat}
theorem vx_back {ws : List Cond} {rm : Room} {Pc : Array Value → State → Prop} {Qc : Array Value → State → Outcome → State → Prop} {XC : String → State → State → Prop} {mc ms : Nat} {free : Addr → Prop} {bytes : ByteArray} {maxL : Nat} {ret : Option FieldType}
    (hM : vx_Met l y ws rm Pc Qc XC mc ms free) (hblind : FrameBlind Pc) (hrc : rm.cells = mc) (hrs : rm.slots = ms)
    (hframes : rm.frames + 1 ≤ R.frames) (hlocals : W9 + (maxL + 11) + rm.locals ≤ R.locals)
    (hws : ∀ w ∈ ws, ∀ a' U, s.WarmedH U.vm → w.before a' U = true) (hcode : Cond.code y bytes maxL ret ∈ ws) (hinit : ∀ a' U, s.WarmedH U.vm → (Cond.initialized y.cls).before a' U = true) :
    vx_Back l R p e below s sargs y len W9 (PreOf R mc ms Pc) (PostOf Qc mc ms free) (vx_Post XC mc ms free) := by
  intro m meth c A g ig mk a X hg hsize hdg hW hn hp
  have h1 : (headSpec ws rm).pre.before a A.U = true := atoms_intro fun w hw => hws w hw _ _ X.warmed
  have h2 : (Cond.code y bytes maxL ret).before a A.U = true := hws _ hcode _ _ X.warmed
  have h3 : (Cond.initialized y.cls).before a A.U = true := hinit _ _ X.warmed
  have h4 : A.cells + (headSpec ws rm).room.cells ≤ R.cells := by rw [show (headSpec ws rm).room.cells = mc from hrc]; exact hp.1
  have h5 : A.slots + (headSpec ws rm).room.slots ≤ R.slots := by rw [show (headSpec ws rm).room.slots = ms from hrs]; exact hp.2.1
  have hPc : Pc a (A.U.calling g mk a) := hblind _ _ _ _ hp.2.2
  obtain ⟨U, Ls, c0, s0⟩ := A
  dsimp only [Pt.U, Pt.locs, Pt.cells, Pt.slots] at h1 h2 h3 h4 h5 X hn hPc ⊢
  obtain ⟨methY, cY, hmY, hcY, -, hlY, -, -, -, -⟩ := Cond.code_spec hn h2
  obtain ⟨kY, hkY, -⟩ := className_of_methodNamed hn
  have hinitY : kY.init = .initialized := Cond.initialized_spec (findClass_of_methodNamed hn) hkY h3
  have h : At U g.method c below := by rw [hg]; exact X.here
  have hlocals9 : W9 + (maxL + 11) + (headSpec ws rm).room.locals ≤ R.locals := hlocals
  have happ : (headSpec ws rm).appliesLoose y e.platform (U.calling g mk a) = true :=
    Spec.appliesLoose_calling (g := g) h hdg hn hkY hinitY
      (X.room_calling (g := g) (R' := (headSpec ws rm).room) hsize hmY hcY hframes (by rw [hlY]; omega) h4 h5) h1
  obtain ⟨mid, hmid⟩ := h.above
  have hfr : (U.setTop g).frames = (.java g :: mid) ++ below := by rw [State.frames_setTop' g h.top, hmid]; rfl
  obtain ⟨o, s₂, hsteps, -, hend, hq⟩ := Steps.callFree hM p X.admits X.cas X.clock (acts := []) hfr happ hPc trivial
  have hq' : vx_Q Qc XC mc ms free a (U.calling g mk a) o s₂ := hq
  rw [State.frames_setTop' g h.top] at hend
  obtain ⟨g₀, hg0⟩ := Option.isSome_iff_exists.mp h.top
  obtain ⟨r, hr⟩ := State.topJava?_eq_some.mp hg0
  have hr' : (({ U with heap := s₂.heap, slotsUsed := s₂.slotsUsed } : State).setVm s₂.vm).frames = .java g₀ :: r := hr
  rcases hq' with ⟨hqc, L, hfe, hL⟩ | ⟨q, rfl, E, ce, L, hx, hce, hcv, hcl, hW₂, hsm, hL⟩
  · obtain ⟨⟨v, rfl⟩, hW₂, e2, q2, q3, q4, q5, q6⟩ := id hfe
    have e3 : s₂ = ({ (U.calling g mk a).setFrames s₂.frames with heap := s₂.heap, slotsUsed := s₂.slotsUsed } : State).setVm s₂.vm := by
      have : s₂ = ({ s₂ with vm := (U.calling g mk a).vm } : State).setVm s₂.vm := rfl
      rw [e2] at this
      exact this
    obtain ⟨c₂, i₂, len₂, hc₂, hd₂, hf₂⟩ := hend
    have hW' : U.WarmedH s₂.vm := hW₂
    have hcc : c₂ = c := by
      have h1 : s₂.code? g.method = U.code? g.method := by
        rw [State.code?_eq, State.code?_eq, hW'.alike.method?]
      exact Option.some.inj (hc₂.symm.trans (h1.trans h.code))
    subst hcc
    have hlen : len₂ = len := by rw [hdg] at hd₂; cases hd₂; rfl
    subst hlen
    have hs₂ : s₂ = (({ U with heap := s₂.heap, slotsUsed := s₂.slotsUsed } : State).setVm s₂.vm).setTop { g with pc := g.pc + len₂, stack := v.toList ++ g.stack } := by
      refine e3.trans ?_
      rw [hf₂, State.calling_eq h.top, State.setFrames_setFrames, State.setTop_of_frames _ hr', hr]
      rfl
    have hsame : U.sameButNew ({ U with heap := s₂.heap, slotsUsed := s₂.slotsUsed } : State) L mc ms := by
      refine ⟨?_, q2, q3, q4, q5, q6⟩
      obtain ⟨t, ht, -⟩ := State.frames_cons hr
      show ({ U with heap := s₂.heap, slotsUsed := s₂.slotsUsed } : State) = { U.setFrames U.frames with heap := s₂.heap, slotsUsed := s₂.slotsUsed }
      rw [State.setFrames_self ht]
    subst hg
    refine Or.inl ⟨v, ⟨(({ U with heap := s₂.heap, slotsUsed := s₂.slotsUsed } : State).setVm s₂.vm), Ls ++ L, c0 + mc, s0 + ms⟩,
      ⟨X.admits, X.cas, X.clock, X.frames, X.room, X.hears, X.method, X.code, (X.here.setHeapUsed s₂.heap s₂.slotsUsed).setVm hW'.alike, X.tail, State.WarmedH.trans X.warmed hW', X.limits, X.bytes, X.same.trans (hsame.setVm s.vm)⟩,
      ⟨g, mk, s₂, L, rfl, rfl, hqc, rfl, hL, rfl, rfl⟩, ?_⟩
    show Steps p.tables e below _ ((({ U with heap := s₂.heap, slotsUsed := s₂.slotsUsed } : State).setVm s₂.vm).setTop { g with pc := g.pc + len₂, stack := v.toList ++ g.stack })
    rw [← hs₂]
    exact hsteps
  · obtain ⟨e2, q2, q3, q4, q5, q6⟩ := id hsm
    have e3 : s₂ = ({ (U.calling g mk a).setFrames s₂.frames with heap := s₂.heap, slotsUsed := s₂.slotsUsed } : State).setVm s₂.vm := by
      have : s₂ = ({ s₂ with vm := (U.calling g mk a).vm } : State).setVm s₂.vm := rfl
      rw [e2] at this
      exact this
    have hf₂ : s₂.frames = .throwing q :: .java g :: U.frames.tail := hend
    have hW' : U.WarmedH s₂.vm := hW₂
    have hs₂ : s₂ = ((({ U with heap := s₂.heap, slotsUsed := s₂.slotsUsed } : State).setVm s₂.vm).setTop g).pushFrame (.throwing q) := by
      refine e3.trans ?_
      rw [hf₂, State.calling_eq h.top, State.setFrames_setFrames, State.pushFrame, State.frames_setTop _ hr', State.setTop_of_frames _ hr', State.setFrames_setFrames, hr]
      rfl
    have hsame : U.sameButNew ({ U with heap := s₂.heap, slotsUsed := s₂.slotsUsed } : State) L mc ms := by
      refine ⟨?_, q2, q3, q4, q5, q6⟩
      obtain ⟨t, ht, -⟩ := State.frames_cons hr
      show ({ U with heap := s₂.heap, slotsUsed := s₂.slotsUsed } : State) = { U.setFrames U.frames with heap := s₂.heap, slotsUsed := s₂.slotsUsed }
      rw [State.setFrames_self ht]
    subst hg
    refine Or.inr ⟨q, ⟨(({ U with heap := s₂.heap, slotsUsed := s₂.slotsUsed } : State).setVm s₂.vm), Ls ++ L, c0 + mc, s0 + ms⟩,
      ⟨X.admits, X.cas, X.clock, X.frames, X.room, X.hears, X.method, X.code, (X.here.setHeapUsed s₂.heap s₂.slotsUsed).setVm hW'.alike, X.tail, State.WarmedH.trans X.warmed hW', X.limits, X.bytes, X.same.trans (hsame.setVm s.vm)⟩,
      ⟨g, mk, s₂, L, E, ce, rfl, rfl, hx, hce, hcv, hcl, rfl, hL, rfl, rfl⟩, ?_⟩
    show Steps p.tables e below _ (((({ U with heap := s₂.heap, slotsUsed := s₂.slotsUsed } : State).setVm s₂.vm).setTop g).pushFrame (.throwing q))
    rw [← hs₂]
    exact hsteps
end Payer
section Calls
variable {p : Program} {l : Launch} {e : Env} {R : Room} {s : State} {m : MethodId} {args : Array Value} {below : List Frame} {meth : Method} {c : Code} {T : State} {locs : List Loc} {cells slots : Nat}
theorem vx_callV (X : Stand p l e R s m args below meth c T locs cells slots) (hexec : p.tables.exec = Jvm.exec) {own C : String} {index : Nat} {y : MethodName} {bytes : ByteArray} {maxL : Nat} {ret : Option FieldType}
    (hown : s.vm.findClass own = some m.cls) (hlink : (Cond.methodLink own index y).before args s = true) (hinst : (Cond.instanceMethod y).before args s = true) (hsel : (Cond.selects C y y).before args s = true)
    (hcode : (Cond.code y bytes maxL ret).before args s = true) (hy : y.cls ≠ "java/lang/invoke/MethodHandle" ∧ y.cls ≠ "java/lang/invoke/VarHandle")
    {W9 : Nat} {Pre : Pt → Array Value → Prop} {Post : Pt → Array Value → Option Value → Pt → Prop} {PostX : Pt → Array Value → Addr → Pt → Prop} (hK : vx_Back l R p e below s args y 3 W9 Pre Post PostX)
    {b : Addr} {cellB : Cell} (hcell : T.heap[b]? = some cellB) (hobj : cellB.vm.isStatics = false) (hcls : s.vm.findClass C = some cellB.cls)
    {g : JFrame} (hg : g.method = m) (hsize : g.locals.size = c.maxLocals) {argsL rest : List Value} (hlen : ∀ sig, parseMethodDescriptor y.desc = some sig → argsL.length = sig.parameters.length)
    (hstack : g.stack = argsL.reverse ++ .ref b :: rest) (hW : 2 * g.monitorRoom + (rest.map fun v => v.category).sum ≤ W9) (hdg : decode c.code g.pc = .ok (.invokevirtual index, 3))
    (hpre : ∀ vm₁, s.WarmedH vm₁ → Pre ⟨T.setVm vm₁, locs, cells, slots⟩ (Value.ref b :: argsL).toArray) :
    (∃ (v : Option Value) (vm₁ : Vm) (B : Pt), s.WarmedH vm₁ ∧ Stand p l e R s m args below meth c B.U B.locs B.cells B.slots ∧ Post ⟨T.setVm vm₁, locs, cells, slots⟩ (Value.ref b :: argsL).toArray v B ∧
      ∀ target, Steps p.tables e below (B.U.setTop { g with pc := g.pc + 3, stack := v.toList ++ rest }) target → Steps p.tables e below (T.setTop g) target) ∨
    (∃ (q : Addr) (vm₁ : Vm) (B : Pt), s.WarmedH vm₁ ∧ Stand p l e R s m args below meth c B.U B.locs B.cells B.slots ∧ PostX ⟨T.setVm vm₁, locs, cells, slots⟩ (Value.ref b :: argsL).toArray q B ∧
      Steps p.tables e below (T.setTop g) ((B.U.setTop { g with stack := rest }).pushFrame (.throwing q))) := by
  obtain ⟨mk, methM, hnamed, hmethM, hstM, habM⟩ := Cond.instanceMethod_spec hinst
  obtain ⟨methM', cM, hmethM', -, -, -, -, -, -, hsigM⟩ := Cond.code_spec hnamed hcode
  cases hmethM.symm.trans hmethM'
  obtain ⟨c2, r2, m2, q1, q2, q3, q4, kP, hkP, hkPi⟩ := Cond.selects_spec hsel
  cases hcls.symm.trans q1
  cases (State.methodFound?_of_named hnamed hy).symm.trans q2
  cases hnamed.symm.trans q3
  have hselP : selectMethod e.platform s.vm cellB.cls mk = .method mk := by rw [Launch.admits_selectMethod X.admits]; exact q4
  obtain ⟨vm₁, X₁, hstep₁⟩ := X.invokevirtual hexec hown hlink hnamed hmethM hstM hkP hkPi hy (a := b) (cell := cellB) hcell
    (fun z h => by rw [h] at hobj; cases hobj) hselP hmethM habM hkP hkPi (g := g) hg (argsL := argsL) (rest := rest) (hlen _ hsigM) hstack hdg
  rcases hK m meth c ⟨T.setVm vm₁, locs, cells, slots⟩ { g with stack := rest } (.invokevirtual index) mk (Value.ref b :: argsL).toArray X₁ hg hsize hdg hW (X₁.named hnamed) (hpre vm₁ X₁.warmed) with ⟨v, B, X', hpost, hsteps⟩ | ⟨q, B, X', hpost, hsteps⟩
  · exact Or.inl ⟨v, vm₁, B, X₁.warmed, X', hpost, fun target h => hstep₁ _ fun acts => by rw [doInvoke_state]; exact hsteps.trans h⟩
  · exact Or.inr ⟨q, vm₁, B, X₁.warmed, X', hpost, hstep₁ _ fun acts => by rw [doInvoke_state]; exact hsteps⟩
theorem vx_callS (X : Stand p l e R s m args below meth c T locs cells slots) (hexec : p.tables.exec = Jvm.exec) {own : String} {index : Nat} {y : MethodName} {bytes : ByteArray} {maxL : Nat} {ret : Option FieldType}
    (hown : s.vm.findClass own = some m.cls) (hlink : (Cond.methodLink own index y).before args s = true) (hstat : (Cond.static y).before args s = true) (hinit : (Cond.initialized y.cls).before args s = true)
    (hcode : (Cond.code y bytes maxL ret).before args s = true) (hy : y.cls ≠ "java/lang/invoke/MethodHandle" ∧ y.cls ≠ "java/lang/invoke/VarHandle")
    {W9 : Nat} {Pre : Pt → Array Value → Prop} {Post : Pt → Array Value → Option Value → Pt → Prop} {PostX : Pt → Array Value → Addr → Pt → Prop} (hK : vx_Back l R p e below s args y 3 W9 Pre Post PostX)
    {g : JFrame} (hg : g.method = m) (hsize : g.locals.size = c.maxLocals) {argsL rest : List Value} (hlen : ∀ sig, parseMethodDescriptor y.desc = some sig → argsL.length = sig.parameters.length)
    (hstack : g.stack = argsL.reverse ++ rest) (hW : 2 * g.monitorRoom + (rest.map fun v => v.category).sum ≤ W9) (hdg : decode c.code g.pc = .ok (.invokestatic index, 3))
    (hpre : ∀ vm₁, s.WarmedH vm₁ → Pre ⟨T.setVm vm₁, locs, cells, slots⟩ argsL.toArray) :
    (∃ (v : Option Value) (vm₁ : Vm) (B : Pt), s.WarmedH vm₁ ∧ Stand p l e R s m args below meth c B.U B.locs B.cells B.slots ∧ Post ⟨T.setVm vm₁, locs, cells, slots⟩ argsL.toArray v B ∧
      ∀ target, Steps p.tables e below (B.U.setTop { g with pc := g.pc + 3, stack := v.toList ++ rest }) target → Steps p.tables e below (T.setTop g) target) ∨
    (∃ (q : Addr) (vm₁ : Vm) (B : Pt), s.WarmedH vm₁ ∧ Stand p l e R s m args below meth c B.U B.locs B.cells B.slots ∧ PostX ⟨T.setVm vm₁, locs, cells, slots⟩ argsL.toArray q B ∧
      Steps p.tables e below (T.setTop g) ((B.U.setTop { g with stack := rest }).pushFrame (.throwing q))) := by
  obtain ⟨mk, hnamed⟩ := Cond.code_named hcode
  obtain ⟨methM, cM, hmethM, -, -, -, -, -, -, hsigM⟩ := Cond.code_spec hnamed hcode
  have hstatic : methM.isStatic = true := Cond.static_spec hnamed hmethM hstat
  obtain ⟨kP, hkP, -⟩ := className_of_methodNamed hnamed
  have hinitP : kP.init = .initialized := Cond.initialized_spec (findClass_of_methodNamed hnamed) hkP hinit
  obtain ⟨vm₁, X₁, hstep₁⟩ := X.invokestatic hexec hown hlink hnamed hmethM hstatic hkP hinitP hy (g := g) hg (argsL := argsL) (rest := rest) (hlen _ hsigM) hstack hdg
  rcases hK m meth c ⟨T.setVm vm₁, locs, cells, slots⟩ { g with stack := rest } (.invokestatic index) mk argsL.toArray X₁ hg hsize hdg hW (X₁.named hnamed) (hpre vm₁ X₁.warmed) with ⟨v, B, X', hpost, hsteps⟩ | ⟨q, B, X', hpost, hsteps⟩
  · exact Or.inl ⟨v, vm₁, B, X₁.warmed, X', hpost, fun target h => hstep₁ _ fun acts => by rw [doInvoke_state]; exact hsteps.trans h⟩
  · exact Or.inr ⟨q, vm₁, B, X₁.warmed, X', hpost, hstep₁ _ fun acts => by rw [doInvoke_state]; exact hsteps⟩
end Calls
theorem vx_cls {s : State} {T : State} {vm₁ : Vm} {E : String} {k : ClassId} (hW : s.WarmedH vm₁) (h : (T.setVm vm₁).vm.findClass E = some k) : s.vm.findClass E = some k := by
  have h1 : vm₁.findClass E = some k := h
  rw [hW.alike.findClass] at h1
  exact h1
/-- the method's frame g, with q thrown over it -/
def vx_W (p : Program) (l : Launch) (e : Env) (R : Room) (s : State) (m : MethodId) (args : Array Value) (below : List Frame) (meth : Method) (c : Code) (H : Heap) (locs : List Loc) (cells slots : Nat) (Q : State → Prop) (g : JFrame) (q : Addr) : Prop :=
  ∀ T : State, T.heap = H → Stand p l e R s m args below meth c T locs cells slots → ∃ t, Steps p.tables e below ((T.setTop g).pushFrame (.throwing q)) t ∧ Q t
def vx_Run (p : Program) (l : Launch) (e : Env) (R : Room) (s : State) (m : MethodId) (args : Array Value) (below : List Frame) (meth : Method) (c : Code) (H : Heap) (locs : List Loc) (cells slots mc ms : Nat) (g : JFrame) (rest : List Value) (Qa : State → Outcome → State → Prop) (XC : String → State → State → Prop) (free : Addr → Prop) : Prop :=
  ∀ T : State, T.heap = H → Stand p l e R s m args below meth c T locs cells slots →
    (∃ (v : Option Value) (st₀ t T' : State) (L : List Loc), st₀.heap = H ∧ Stand p l e R s m args below meth c T' (locs ++ L) (cells + mc) (slots + ms) ∧ (∀ q ∈ L, free q.base) ∧ T'.heap = t.heap ∧ T'.vm = t.vm ∧ Qa st₀ (.returned v) t ∧
      Goes p e below T g T' { g with pc := g.pc + 3, stack := v.toList ++ rest }) ∨
    (∃ (q : Addr) (st₀ t T' : State) (L : List Loc) (E : String) (ce : Cell), st₀.heap = H ∧ Stand p l e R s m args below meth c T' (locs ++ L) (cells + mc) (slots + ms) ∧ (∀ z ∈ L, free z.base) ∧ T'.heap = t.heap ∧ T'.vm = t.vm ∧ XC E st₀ t ∧ t.heap[q]? = some ce ∧ ce.vm = .none ∧ s.vm.findClass E = some ce.cls ∧
      Steps p.tables e below (T.setTop g) ((T'.setTop { g with stack := rest }).pushFrame (.throwing q)))
def vx_X {S : Type} (px : S → Prop) (B : String → S → State → Prop) (A : Nat → Prop) : String → State → State → Prop := fun E st t => ∃ u : S, px u ∧ B E u t ∧ va_F A st t
section Runs
variable {p : Program} {l : Launch} {e : Env} {R : Room} {s : State} {m : MethodId} {args : Array Value} {below : List Frame} {meth : Method} {c : Code} {H : Heap} {locs : List Loc} {cells slots : Nat}
variable {y : MethodName} {bytes cc : ByteArray} {maxL nL mc ms n index : Nat} {ret : Option FieldType} {ws : List Cond} {rm : Room} {Pc : Array Value → State → Prop} {Qc : Array Value → State → Outcome → State → Prop} {XC : String → State → State → Prop} {free : Addr → Prop} {Ts : List Cond} {own C : String} {b : Addr} {As rest : List Value} {g : JFrame}
theorem vx_callBack (cb : CallB R s args own index y bytes maxL ret ws rm mc ms n) (hM : vx_Met l y ws rm Pc Qc XC mc ms free) (hbl : FrameBlind Pc) : vx_Back l R p e below s args y 3 8 (PreOf R mc ms Pc) (PostOf Qc mc ms free) (vx_Post XC mc ms free) := by
  obtain ⟨hrc, hrs, hfr, hlo, hws, hcw, -, hini, -⟩ := cb
  exact vx_back (bytes := bytes) (maxL := maxL) (ret := ret) hM hbl hrc hrs hfr hlo hws hcw (fun a' U hW => word_at hW (Or.inl (by first | rfl | simp [Cond.onTables, Cond.keeps, Cond.steady])) hini)
theorem vx_runV (S : CallFix p m c cc nL s args Ts own) (hM : vx_Met l y ws rm Pc Qc XC mc ms free) (cw : CallW R s args own C index y bytes maxL ret ws rm mc ms n) (hp : PreV s H C b Pc As)
    (hg : g.method = m) (hn : As.length = n) (hsize : g.locals.size = nL) (hstack : g.stack = As.reverse ++ .ref b :: rest) (hW : 2 * g.monitorRoom + (rest.map fun v => v.category).sum ≤ 8) (hdg : decode cc g.pc = .ok (.invokevirtual index, 3)) (hf : cells + mc ≤ R.cells ∧ slots + ms ≤ R.slots) :
    vx_Run p l e R s m args below meth c H locs cells slots mc ms g rest (Qc (Value.ref b :: As).toArray) XC free := by
  have hK : vx_Back l R p e below s args y 3 8 (PreOf R mc ms Pc) (PostOf Qc mc ms free) (vx_Post XC mc ms free) := vx_callBack cw.1 hM hp.1
  obtain ⟨⟨-, -, -, -, -, -, hcode, -, hy, hlen, hl⟩, hin, hse⟩ := cw
  obtain ⟨hx, hb, hml, ho, -⟩ := S
  obtain ⟨-, ⟨cellB, hcB, hoB, hclB⟩, hPc⟩ := hp
  intro T hT X
  rcases vx_callV X hx (C := C) (bytes := bytes) (maxL := maxL) (ret := ret) ho hl hin hse hcode hy hK (by rw [hT]; exact hcB) hoB hclB hg (hsize.trans hml.symm) (argsL := As) (rest := rest) (fun sig h => hn.trans (hlen sig h)) hstack hW (by rw [hb]; exact hdg)
    (fun vm₁ hW₁ => ⟨hf.1, hf.2, hPc (T.setVm vm₁) hT hW₁⟩) with ⟨v, vm₁, ⟨U', l2, c2, s2⟩, hW₁, X', ⟨g', mk, t, L, e1, e2, hq, h1, hL, h2, h3⟩, st⟩ | ⟨q, vm₁, ⟨U', l2, c2, s2⟩, hW₁, X', ⟨g', mk, t, L, E, ce, e1, e2, hq, hce, hcv, hcl, h1, hL, h2, h3⟩, st⟩
  · dsimp only [Pt.U, Pt.locs, Pt.cells, Pt.slots] at X' e1 e2 h1 h2 h3 st
    subst h1; subst h2; subst h3
    exact Or.inl ⟨v, (T.setVm vm₁).calling g' mk (Value.ref b :: As).toArray, t, U', L, hT, X', hL, e1, e2, hq, st⟩
  · dsimp only [Pt.U, Pt.locs, Pt.cells, Pt.slots] at X' e1 e2 h1 h2 h3 st hcl
    subst h1; subst h2; subst h3
    exact Or.inr ⟨q, (T.setVm vm₁).calling g' mk (Value.ref b :: As).toArray, t, U', L, E, ce, hT, X', hL, e1, e2, hq, hce, hcv, vx_cls hW₁ hcl, st⟩
theorem vx_runS (S : CallFix p m c cc nL s args Ts own) (hM : vx_Met l y ws rm Pc Qc XC mc ms free) (cw : CallB R s args own index y bytes maxL ret ws rm mc ms n ∧ (Cond.static y).before args s = true) (hp : PreS s H Pc As)
    (hg : g.method = m) (hn : As.length = n) (hsize : g.locals.size = nL) (hstack : g.stack = As.reverse ++ rest) (hW : 2 * g.monitorRoom + (rest.map fun v => v.category).sum ≤ 8) (hdg : decode cc g.pc = .ok (.invokestatic index, 3)) (hf : cells + mc ≤ R.cells ∧ slots + ms ≤ R.slots) :
    vx_Run p l e R s m args below meth c H locs cells slots mc ms g rest (Qc As.toArray) XC free := by
  have hK : vx_Back l R p e below s args y 3 8 (PreOf R mc ms Pc) (PostOf Qc mc ms free) (vx_Post XC mc ms free) := vx_callBack cw.1 hM hp.1
  obtain ⟨⟨-, -, -, -, -, -, hcode, hini, hy, hlen, hl⟩, hstt⟩ := cw
  obtain ⟨hx, hb, hml, ho, -⟩ := S
  intro T hT X
  rcases vx_callS X hx (bytes := bytes) (maxL := maxL) (ret := ret) ho hl hstt hini hcode hy hK hg (hsize.trans hml.symm) (argsL := As) (rest := rest) (fun sig h => hn.trans (hlen sig h)) hstack hW (by rw [hb]; exact hdg)
    (fun vm₁ hW₁ => ⟨hf.1, hf.2, hp.2 (T.setVm vm₁) hT hW₁⟩) with ⟨v, vm₁, ⟨U', l2, c2, s2⟩, hW₁, X', ⟨g', mk, t, L, e1, e2, hq, h1, hL, h2, h3⟩, st⟩ | ⟨q, vm₁, ⟨U', l2, c2, s2⟩, hW₁, X', ⟨g', mk, t, L, E, ce, e1, e2, hq, hce, hcv, hcl, h1, hL, h2, h3⟩, st⟩
  · dsimp only [Pt.U, Pt.locs, Pt.cells, Pt.slots] at X' e1 e2 h1 h2 h3 st
    subst h1; subst h2; subst h3
    exact Or.inl ⟨v, (T.setVm vm₁).calling g' mk As.toArray, t, U', L, hT, X', hL, e1, e2, hq, st⟩
  · dsimp only [Pt.U, Pt.locs, Pt.cells, Pt.slots] at X' e1 e2 h1 h2 h3 st hcl
    subst h1; subst h2; subst h3
    exact Or.inr ⟨q, (T.setVm vm₁).calling g' mk As.toArray, t, U', L, E, ce, hT, X', hL, e1, e2, hq, hce, hcv, vx_cls hW₁ hcl, st⟩
end Runs
section Rows
variable {p : Program} {l : Launch} {e : Env} {R : Room} {s : State} {m : MethodId} {args : Array Value} {below : List Frame} {meth : Method} {c : Code} {H : Heap} {locs : List Loc} {cells slots : Nat} {Q : State → Prop}
variable {mc ms : Nat} {free : Addr → Prop} {A0 A1 : Nat → Prop} {H0 : Heap} {a : Array Value} {pc : Nat} {ls : Array Slot} {st0 rest : List Value}
theorem vx_keep {st₀ t T' : State} {L : List Loc} (h0 : st₀.heap = H) (e1 : T'.heap = t.heap) (hS : va_S A0 H0 H locs) (hA : ∀ q, q < H.size → A1 q → A0 q) (hf : ∀ q, free q → A0 q) (hL : ∀ q ∈ L, free q.base) (hF : va_F A1 st₀ t) :
    H.size ≤ T'.heap.size ∧ (∀ q : Nat, q < H.size → ¬ A1 q → T'.heap[q]? = H[q]?) ∧ va_S A0 H0 T'.heap (locs ++ L) := by
  obtain ⟨hz, hk⟩ := hF
  rw [h0] at hz hk
  exact ⟨by rw [e1]; exact hz, fun q h1 h2 => by rw [e1]; exact hk q h1 h2,
    ⟨Nat.le_trans hS.1 (by rw [e1]; exact hz), fun q h1 h2 => by rw [e1, hk q (Nat.lt_of_lt_of_le h1 hS.1) (fun z => h2 (hA q (Nat.lt_of_lt_of_le h1 hS.1) z))]; exact hS.2.1 q h1 h2, fun q hq => by
      rcases List.mem_append.mp hq with h | h
      · exact hS.2.2 q h
      · exact hf _ (hL q h)⟩⟩
theorem vx_calli {S SX : Type} {post : Int32 → S → Prop} {px : SX → Prop} {B : S → State → Prop} {BX : String → SX → State → Prop} {AX : Nat → Prop} (hr : vx_Run p l e R s m args below meth c H locs cells slots mc ms (F0 m pc ls st0) rest (va_Qi post B A1 a) (vx_X px BX AX) free) (hS : va_S A0 H0 H locs) (hA : ∀ q, q < H.size → A1 q → A0 q) (hf : ∀ q, free q → A0 q) (hAX : ∀ q, q < H.size → AX q → A0 q)
    (kx : ∀ (E : String) (ce : Cell) (q9 : Addr) (u : SX) (t : State) (H1 : Heap) (locs1 : List Loc), t.heap = H1 → s.vm.Alike t.vm → px u → BX E u t → H.size ≤ H1.size → (∀ q : Nat, q < H.size → ¬ AX q → H1[q]? = H[q]?) → va_S A0 H0 H1 locs1 → H1[q9]? = some ce → ce.vm = .none → s.vm.findClass E = some ce.cls → vx_W p l e R s m args below meth c H1 locs1 (cells + mc) (slots + ms) Q (F0 m pc ls rest) q9)
    (kk : ∀ (r : Int32) (u : S) (t : State) (H1 : Heap) (locs1 : List Loc), t.heap = H1 → s.vm.Alike t.vm → post r u → B u t → H.size ≤ H1.size → (∀ q : Nat, q < H.size → ¬ A1 q → H1[q]? = H[q]?) → va_S A0 H0 H1 locs1 → W p l e R s m args below meth c H1 locs1 (cells + mc) (slots + ms) Q (F0 m (pc + 3) ls (.int r :: rest))) : W p l e R s m args below meth c H locs cells slots Q (F0 m pc ls st0) := by
  intro T hT X
  rcases hr T hT X with ⟨v, st₀, t, T', L, h0, X', hL, e1, e2, ⟨⟨r, u, hv, hp, hb⟩, hF⟩, st⟩ | ⟨q, st₀, t, T', L, E, ce, h0, X', hL, e1, e2, ⟨u, hp, hb, hF⟩, hce, hcv, hcl, st⟩
  · cases hv
    obtain ⟨k1, k2, k3⟩ := vx_keep h0 e1 hS hA hf hL hF
    obtain ⟨t2, a1, b1⟩ := kk r u t T'.heap (locs ++ L) e1.symm (by rw [← e2]; exact X'.warmed.alike) hp hb k1 k2 k3 T' rfl X'
    exact ⟨t2, st t2 a1, b1⟩
  · obtain ⟨k1, k2, k3⟩ := vx_keep h0 e1 hS hAX hf hL hF
    obtain ⟨t2, a1, b1⟩ := kx E ce q u t T'.heap (locs ++ L) e1.symm (by rw [← e2]; exact X'.warmed.alike) hp hb k1 k2 k3 (by rw [e1]; exact hce) hcv hcl T' rfl X'
    exact ⟨t2, st.trans a1, b1⟩
theorem vx_calll {S SX : Type} {post : Int64 → S → Prop} {px : SX → Prop} {B : S → State → Prop} {BX : String → SX → State → Prop} {AX : Nat → Prop} (hr : vx_Run p l e R s m args below meth c H locs cells slots mc ms (F0 m pc ls st0) rest (va_Ql post B A1 a) (vx_X px BX AX) free) (hS : va_S A0 H0 H locs) (hA : ∀ q, q < H.size → A1 q → A0 q) (hf : ∀ q, free q → A0 q) (hAX : ∀ q, q < H.size → AX q → A0 q)
    (kx : ∀ (E : String) (ce : Cell) (q9 : Addr) (u : SX) (t : State) (H1 : Heap) (locs1 : List Loc), t.heap = H1 → s.vm.Alike t.vm → px u → BX E u t → H.size ≤ H1.size → (∀ q : Nat, q < H.size → ¬ AX q → H1[q]? = H[q]?) → va_S A0 H0 H1 locs1 → H1[q9]? = some ce → ce.vm = .none → s.vm.findClass E = some ce.cls → vx_W p l e R s m args below meth c H1 locs1 (cells + mc) (slots + ms) Q (F0 m pc ls rest) q9)
    (kk : ∀ (r : Int64) (u : S) (t : State) (H1 : Heap) (locs1 : List Loc), t.heap = H1 → s.vm.Alike t.vm → post r u → B u t → H.size ≤ H1.size → (∀ q : Nat, q < H.size → ¬ A1 q → H1[q]? = H[q]?) → va_S A0 H0 H1 locs1 → W p l e R s m args below meth c H1 locs1 (cells + mc) (slots + ms) Q (F0 m (pc + 3) ls (.long r :: rest))) : W p l e R s m args below meth c H locs cells slots Q (F0 m pc ls st0) := by
  intro T hT X
  rcases hr T hT X with ⟨v, st₀, t, T', L, h0, X', hL, e1, e2, ⟨⟨r, u, hv, hp, hb⟩, hF⟩, st⟩ | ⟨q, st₀, t, T', L, E, ce, h0, X', hL, e1, e2, ⟨u, hp, hb, hF⟩, hce, hcv, hcl, st⟩
  · cases hv
    obtain ⟨k1, k2, k3⟩ := vx_keep h0 e1 hS hA hf hL hF
    obtain ⟨t2, a1, b1⟩ := kk r u t T'.heap (locs ++ L) e1.symm (by rw [← e2]; exact X'.warmed.alike) hp hb k1 k2 k3 T' rfl X'
    exact ⟨t2, st t2 a1, b1⟩
  · obtain ⟨k1, k2, k3⟩ := vx_keep h0 e1 hS hAX hf hL hF
    obtain ⟨t2, a1, b1⟩ := kx E ce q u t T'.heap (locs ++ L) e1.symm (by rw [← e2]; exact X'.warmed.alike) hp hb k1 k2 k3 (by rw [e1]; exact hce) hcv hcl T' rfl X'
    exact ⟨t2, st.trans a1, b1⟩
theorem vx_callf {S SX : Type} {post : UInt32 → S → Prop} {px : SX → Prop} {B : S → State → Prop} {BX : String → SX → State → Prop} {AX : Nat → Prop} (hr : vx_Run p l e R s m args below meth c H locs cells slots mc ms (F0 m pc ls st0) rest (va_Qf post B A1 a) (vx_X px BX AX) free) (hS : va_S A0 H0 H locs) (hA : ∀ q, q < H.size → A1 q → A0 q) (hf : ∀ q, free q → A0 q) (hAX : ∀ q, q < H.size → AX q → A0 q)
    (kx : ∀ (E : String) (ce : Cell) (q9 : Addr) (u : SX) (t : State) (H1 : Heap) (locs1 : List Loc), t.heap = H1 → s.vm.Alike t.vm → px u → BX E u t → H.size ≤ H1.size → (∀ q : Nat, q < H.size → ¬ AX q → H1[q]? = H[q]?) → va_S A0 H0 H1 locs1 → H1[q9]? = some ce → ce.vm = .none → s.vm.findClass E = some ce.cls → vx_W p l e R s m args below meth c H1 locs1 (cells + mc) (slots + ms) Q (F0 m pc ls rest) q9)
    (kk : ∀ (r : UInt32) (u : S) (t : State) (H1 : Heap) (locs1 : List Loc), t.heap = H1 → s.vm.Alike t.vm → post r u → B u t → H.size ≤ H1.size → (∀ q : Nat, q < H.size → ¬ A1 q → H1[q]? = H[q]?) → va_S A0 H0 H1 locs1 → W p l e R s m args below meth c H1 locs1 (cells + mc) (slots + ms) Q (F0 m (pc + 3) ls (.float r :: rest))) : W p l e R s m args below meth c H locs cells slots Q (F0 m pc ls st0) := by
  intro T hT X
  rcases hr T hT X with ⟨v, st₀, t, T', L, h0, X', hL, e1, e2, ⟨⟨r, u, hv, hp, hb⟩, hF⟩, st⟩ | ⟨q, st₀, t, T', L, E, ce, h0, X', hL, e1, e2, ⟨u, hp, hb, hF⟩, hce, hcv, hcl, st⟩
  · cases hv
    obtain ⟨k1, k2, k3⟩ := vx_keep h0 e1 hS hA hf hL hF
    obtain ⟨t2, a1, b1⟩ := kk r u t T'.heap (locs ++ L) e1.symm (by rw [← e2]; exact X'.warmed.alike) hp hb k1 k2 k3 T' rfl X'
    exact ⟨t2, st t2 a1, b1⟩
  · obtain ⟨k1, k2, k3⟩ := vx_keep h0 e1 hS hAX hf hL hF
    obtain ⟨t2, a1, b1⟩ := kx E ce q u t T'.heap (locs ++ L) e1.symm (by rw [← e2]; exact X'.warmed.alike) hp hb k1 k2 k3 (by rw [e1]; exact hce) hcv hcl T' rfl X'
    exact ⟨t2, st.trans a1, b1⟩
theorem vx_calld {S SX : Type} {post : UInt64 → S → Prop} {px : SX → Prop} {B : S → State → Prop} {BX : String → SX → State → Prop} {AX : Nat → Prop} (hr : vx_Run p l e R s m args below meth c H locs cells slots mc ms (F0 m pc ls st0) rest (va_Qd post B A1 a) (vx_X px BX AX) free) (hS : va_S A0 H0 H locs) (hA : ∀ q, q < H.size → A1 q → A0 q) (hf : ∀ q, free q → A0 q) (hAX : ∀ q, q < H.size → AX q → A0 q)
    (kx : ∀ (E : String) (ce : Cell) (q9 : Addr) (u : SX) (t : State) (H1 : Heap) (locs1 : List Loc), t.heap = H1 → s.vm.Alike t.vm → px u → BX E u t → H.size ≤ H1.size → (∀ q : Nat, q < H.size → ¬ AX q → H1[q]? = H[q]?) → va_S A0 H0 H1 locs1 → H1[q9]? = some ce → ce.vm = .none → s.vm.findClass E = some ce.cls → vx_W p l e R s m args below meth c H1 locs1 (cells + mc) (slots + ms) Q (F0 m pc ls rest) q9)
    (kk : ∀ (r : UInt64) (u : S) (t : State) (H1 : Heap) (locs1 : List Loc), t.heap = H1 → s.vm.Alike t.vm → post r u → B u t → H.size ≤ H1.size → (∀ q : Nat, q < H.size → ¬ A1 q → H1[q]? = H[q]?) → va_S A0 H0 H1 locs1 → W p l e R s m args below meth c H1 locs1 (cells + mc) (slots + ms) Q (F0 m (pc + 3) ls (.double r :: rest))) : W p l e R s m args below meth c H locs cells slots Q (F0 m pc ls st0) := by
  intro T hT X
  rcases hr T hT X with ⟨v, st₀, t, T', L, h0, X', hL, e1, e2, ⟨⟨r, u, hv, hp, hb⟩, hF⟩, st⟩ | ⟨q, st₀, t, T', L, E, ce, h0, X', hL, e1, e2, ⟨u, hp, hb, hF⟩, hce, hcv, hcl, st⟩
  · cases hv
    obtain ⟨k1, k2, k3⟩ := vx_keep h0 e1 hS hA hf hL hF
    obtain ⟨t2, a1, b1⟩ := kk r u t T'.heap (locs ++ L) e1.symm (by rw [← e2]; exact X'.warmed.alike) hp hb k1 k2 k3 T' rfl X'
    exact ⟨t2, st t2 a1, b1⟩
  · obtain ⟨k1, k2, k3⟩ := vx_keep h0 e1 hS hAX hf hL hF
    obtain ⟨t2, a1, b1⟩ := kx E ce q u t T'.heap (locs ++ L) e1.symm (by rw [← e2]; exact X'.warmed.alike) hp hb k1 k2 k3 (by rw [e1]; exact hce) hcv hcl T' rfl X'
    exact ⟨t2, st.trans a1, b1⟩
theorem vx_callv {S SX : Type} {post : S → Prop} {px : SX → Prop} {B : S → State → Prop} {BX : String → SX → State → Prop} {AX : Nat → Prop} (hr : vx_Run p l e R s m args below meth c H locs cells slots mc ms (F0 m pc ls st0) rest (va_Qv post B A1 a) (vx_X px BX AX) free) (hS : va_S A0 H0 H locs) (hA : ∀ q, q < H.size → A1 q → A0 q) (hf : ∀ q, free q → A0 q) (hAX : ∀ q, q < H.size → AX q → A0 q)
    (kx : ∀ (E : String) (ce : Cell) (q9 : Addr) (u : SX) (t : State) (H1 : Heap) (locs1 : List Loc), t.heap = H1 → s.vm.Alike t.vm → px u → BX E u t → H.size ≤ H1.size → (∀ q : Nat, q < H.size → ¬ AX q → H1[q]? = H[q]?) → va_S A0 H0 H1 locs1 → H1[q9]? = some ce → ce.vm = .none → s.vm.findClass E = some ce.cls → vx_W p l e R s m args below meth c H1 locs1 (cells + mc) (slots + ms) Q (F0 m pc ls rest) q9)
    (kk : ∀ (u : S) (t : State) (H1 : Heap) (locs1 : List Loc), t.heap = H1 → s.vm.Alike t.vm → post u → B u t → H.size ≤ H1.size → (∀ q : Nat, q < H.size → ¬ A1 q → H1[q]? = H[q]?) → va_S A0 H0 H1 locs1 → W p l e R s m args below meth c H1 locs1 (cells + mc) (slots + ms) Q (F0 m (pc + 3) ls (rest))) : W p l e R s m args below meth c H locs cells slots Q (F0 m pc ls st0) := by
  intro T hT X
  rcases hr T hT X with ⟨v, st₀, t, T', L, h0, X', hL, e1, e2, ⟨⟨u, hv, hp, hb⟩, hF⟩, st⟩ | ⟨q, st₀, t, T', L, E, ce, h0, X', hL, e1, e2, ⟨u, hp, hb, hF⟩, hce, hcv, hcl, st⟩
  · cases hv
    obtain ⟨k1, k2, k3⟩ := vx_keep h0 e1 hS hA hf hL hF
    obtain ⟨t2, a1, b1⟩ := kk u t T'.heap (locs ++ L) e1.symm (by rw [← e2]; exact X'.warmed.alike) hp hb k1 k2 k3 T' rfl X'
    exact ⟨t2, st t2 a1, b1⟩
  · obtain ⟨k1, k2, k3⟩ := vx_keep h0 e1 hS hAX hf hL hF
    obtain ⟨t2, a1, b1⟩ := kx E ce q u t T'.heap (locs ++ L) e1.symm (by rw [← e2]; exact X'.warmed.alike) hp hb k1 k2 k3 (by rw [e1]; exact hce) hcv hcl T' rfl X'
    exact ⟨t2, st.trans a1, b1⟩
/-- caught by the row x of this method's table; the rows ahead don't take it -/
theorem vx_catch {own name : String} {E : String} {ce : Cell} {q : Addr} (hown : s.vm.findClass own = some m.cls) (pre : List ExceptionTableEntry) (x : ExceptionTableEntry) (suf : List ExceptionTableEntry) (hsplit : c.exceptionTable.toList = pre ++ x :: suf)
    (hpass : ∀ z ∈ pre, covers z pc = false ∨ (z.catchType ≠ 0 ∧ ∃ nm : String, (Cond.classLink own z.catchType nm).before args s = true ∧ va_Nc E nm s)) (hx : covers x pc = true) (h0 : x.catchType ≠ 0)
    (hlink : (Cond.classLink own x.catchType name).before args s = true) (hcast : (Cond.castable E name).before args s = true) (hcell : H[q]? = some ce) (hv : ce.vm = .none) (hcl : s.vm.findClass E = some ce.cls)
    (kk : W p l e R s m args below meth c H locs cells slots Q (F0 m x.handlerPc ls [.ref q])) : vx_W p l e R s m args below meth c H locs cells slots Q (F0 m pc ls rest) q := by
  intro T hT X
  have hpl : e.platform.magicAccessors = ({} : Platform).magicAccessors := by rw [X.admits.platform]
  obtain ⟨c3, c4, hc3, hc4, hasg⟩ := Cond.castable_spec hcast
  cases Option.some.inj (hc3.symm.trans hcl)
  obtain ⟨c5, hc5, hcl5⟩ := Cond.classLink_spec hown hlink e.platform hpl
  cases Option.some.inj (hc4.symm.trans hc5)
  obtain ⟨vm', X', st⟩ := X.thenCaughtThrough q (g := F0 m pc ls rest) rfl (Steps.refl _) (by rw [hT]; exact hcell) (by rw [hv]; rfl) (by obtain ⟨k9, h9, -⟩ := Vm.findClass_spec hcl; exact ⟨k9, h9⟩) pre x suf hsplit
    (fun z hz => by
      rcases hpass z hz with h | ⟨hz0, nm, hl1, hn1⟩
      · exact Or.inl h
      · obtain ⟨c6, hc6, hcl6⟩ := Cond.classLink_spec hown hl1 e.platform hpl
        obtain ⟨a8, b8, h1, h2, h3⟩ := hn1
        cases Option.some.inj (h1.symm.trans hcl)
        cases Option.some.inj (h2.symm.trans hc6)
        exact Or.inr ⟨hz0, _, hcl6, h3⟩) hx (Or.inr ⟨h0, c4, hcl5, hasg⟩)
  obtain ⟨t, a1, b1⟩ := kk (T.setVm vm') hT X'
  exact ⟨t, st.trans a1, b1⟩
end Rows
section Ends
variable {p : Program} {l : Launch} {e : Env} {R : Room} {s : State} {m : MethodId} {args : Array Value} {below : List Frame} {meth : Method} {c : Code} {H : Heap} {locs : List Loc} {cells slots : Nat} {Q : State → Prop}
variable {mc ms : Nat} {free : Addr → Prop} {A0 A1 : Nat → Prop} {H0 : Heap} {a : Array Value} {ls : Array Slot} {st0 rest : List Value}
variable {Qc : Array Value → State → Outcome → State → Prop} {XC : String → State → State → Prop}
/-- what a body that may throw owes at its end -/
def vx_MQ (below : List Frame) (Qc : Array Value → State → Outcome → State → Prop) (XC : String → State → State → Prop) (a : Array Value) (s : State) (mc ms : Nat) (free : Addr → Prop) : State → Prop := fun t =>
  ∃ o, t.status = .running ∧ Ended t below o ∧ vx_Q Qc XC mc ms free a s o t
theorem vx_ret {g : JFrame} {mc ms : Nat} (k : W p l e R s m args below meth c H locs cells slots (MQ below Qc args s mc ms free) g) : W p l e R s m args below meth c H locs cells slots (vx_MQ below Qc XC args s mc ms free) g := by
  intro T hT X
  obtain ⟨t, a1, o, b1, b2, b3, b4⟩ := k T hT X
  exact ⟨t, a1, o, b1, b2, Or.inl ⟨b3, b4⟩⟩
/-- not caught here: it goes on to the caller -/
theorem vx_widen {g : JFrame} {q : Addr} {k n : Nat} (h1 : cells ≤ k) (h2 : slots ≤ n) (kk : vx_W p l e R s m args below meth c H locs k n Q g q) : vx_W p l e R s m args below meth c H locs cells slots Q g q := fun T hT X => kk T hT (stand_widen X h1 h2)
theorem vx_out {pc : Nat} {E : String} {ce : Cell} {q : Addr} {mc ms : Nat} (hout : ∀ x ∈ c.exceptionTable.toList, covers x pc = false) (hlocks : meth.locks = false) (hcell : H[q]? = some ce) (hv : ce.vm = .none) (hcl : s.vm.findClass E = some ce.cls)
    (hx : ∀ t : State, t.heap = H → s.vm.Alike t.vm → XC E s t) (hf : ∀ z ∈ locs, free z.base) (hc : cells ≤ mc) (hs : slots ≤ ms) :
    vx_W p l e R s m args below meth c H locs cells slots (vx_MQ below Qc XC args s mc ms free) (F0 m pc ls rest) q := by
  intro T hT X
  obtain ⟨st1, hrun, hend, hW, hsm⟩ := X.leaveThrown q (g := F0 m pc ls rest) rfl rfl rfl hout hlocks
  have hcell9 : (T.setFrames (.throwing q :: below)).heap[q]? = some ce := by
    show T.heap[q]? = some ce
    rw [hT]; exact hcell
  exact ⟨_, st1, .threw q, hrun, hend, Or.inr ⟨q, rfl, E, ce, locs, hx _ hT hW.alike, hcell9, hv, hcl, hW, hsm.mono hc hs, hf⟩⟩
theorem vx_frame {U : State} {k n : Nat} (h : s.sameButNew ({ U with vm := s.vm } : State) locs k n) : s.heap.size ≤ U.heap.size ∧ ∀ q : Nat, q < s.heap.size → (∀ z ∈ locs, z.base ≠ q) → U.heap[q]? = s.heap[q]? := by
  obtain ⟨-, h2, -, -, -, h6⟩ := h
  refine ⟨h2, fun q hq hz => ?_⟩
  obtain ⟨c9, e1, e2, e3, e4⟩ := h6 q _ (Array.getElem?_eq_getElem hq)
  have hs : c9.slots = (s.heap[q]).slots := Array.ext_getElem? fun i => e4 i fun hm => hz _ hm rfl
  have h9 : c9 = s.heap[q] := by
    rw [hs] at e2
    exact e2
  have e5 : U.heap[q]? = some c9 := e1
  rw [e5, h9, Array.getElem?_eq_getElem hq]
/-- the words of a throw but the four that speak of the heap -/
def vx_no (w : Cond) : Bool := decide (w ≠ .isRef (.static Bundle.tN "UNASSIGNED_STACK" Bundle.steD)) && decide (w ≠ .isRef (.static Bundle.tN "SUPPRESSED_SENTINEL" Bundle.listD)) && decide (w ≠ .laysStatic Bundle.tN "UNASSIGNED_STACK" Bundle.steD) && decide (w ≠ .laysStatic Bundle.tN "SUPPRESSED_SENTINEL" Bundle.listD)
def vx_at0 (own : String) (ic : Nat) (X : String) (names : List String) : List Cond := (Bundle.ownAtoms0 own ic X names).filter vx_no
def vx_atS (own : String) (ic : Nat) (X : String) (names : List String) : List Cond := (Bundle.ownAtoms own ic X names).filter vx_no
/-- a word that the tables alone decide, or a good one -/
def vx_ot (w : Cond) : Bool := w.onTables || goodWord w
theorem vx_ot_at {args a' : Array Value} {s U : State} {w : Cond} (hW : s.WarmedH U.vm) (hvm : s.vm = U.vm) (hg : vx_ot w = true) (h : w.before args s = true) : w.before a' U = true := by
  simp only [vx_ot, Bool.or_eq_true] at hg
  rcases hg with hg | hg
  · exact va_tabs hg hvm h
  · exact word_at hW (good_of_word hg) h
/-- a list's words: the good ones out of the method's own list, the others by premises of their own -/
theorem vx_hat {args : Array Value} {s : State} {L B : List Cond} (h1 : ∀ w ∈ L.filter goodWord, w.before args s = true) (h2 : ∀ w ∈ L.filter (fun w => !goodWord w), w ∈ B) (h3 : ∀ w ∈ B, w.before args s = true) : ∀ w ∈ L, w.before args s = true := by
  intro w hw
  by_cases g : goodWord w = true
  · exact h1 w (List.mem_filter.mpr ⟨hw, g⟩)
  · refine h3 w (h2 w (List.mem_filter.mpr ⟨hw, ?_⟩))
    show (!goodWord w) = true
    cases hgw : goodWord w
    · rfl
    · exact absurd hgw g
theorem vx_c {args : Array Value} {s : State} {w : Cond} {B : List Cond} (h : w.before args s = true) (t : ∀ w ∈ B, w.before args s = true) : ∀ w' ∈ w :: B, w'.before args s = true := fun w' h' => (List.mem_cons.mp h').elim (fun e => by rw [e]; exact h) (t w')
theorem vx_n {args : Array Value} {s : State} : ∀ w ∈ ([] : List Cond), w.before args s = true := fun _ h => nomatch h
theorem vx_own {args : Array Value} {s : State} {L : List Cond} (h1 : ∀ w ∈ L.filter vx_no, w.before args s = true)
    (hU : (Cond.isRef (.static Bundle.tN "UNASSIGNED_STACK" Bundle.steD)).before args s = true) (hN : (Cond.isRef (.static Bundle.tN "SUPPRESSED_SENTINEL" Bundle.listD)).before args s = true)
    (lU : (Cond.laysStatic Bundle.tN "UNASSIGNED_STACK" Bundle.steD).before args s = true) (lN : (Cond.laysStatic Bundle.tN "SUPPRESSED_SENTINEL" Bundle.listD).before args s = true) : ∀ w ∈ L, w.before args s = true := by
  intro w hw
  by_cases e1 : w = .isRef (.static Bundle.tN "UNASSIGNED_STACK" Bundle.steD)
  · rw [e1]; exact hU
  · by_cases e2 : w = .isRef (.static Bundle.tN "SUPPRESSED_SENTINEL" Bundle.listD)
    · rw [e2]; exact hN
    · by_cases e3 : w = .laysStatic Bundle.tN "UNASSIGNED_STACK" Bundle.steD
      · rw [e3]; exact lU
      · by_cases e4 : w = .laysStatic Bundle.tN "SUPPRESSED_SENTINEL" Bundle.listD
        · rw [e4]; exact lN
        · exact h1 w (List.mem_filter.mpr ⟨hw, by unfold vx_no; rw [decide_eq_true e1, decide_eq_true e2, decide_eq_true e3, decide_eq_true e4]; rfl⟩)
/-- where a static field lies, its class's statics cell in H -/
def vx_L (C n d : String) (A : Nat → Prop) (U : State) (H : Heap) : Prop := ∃ (c : ClassId) (k : Class) (i : Nat) (f : Field) (a : Nat) (cell : Cell), U.vm.findClass C = some c ∧ U.fieldFound? C n d = some (c, k, i, f) ∧ f.isStatic = true ∧ k.statics = some a ∧ H[a]? = some cell ∧ cell.vm.isStatics = true ∧ cell.cls = c ∧ f.slot < cell.slots.size ∧ k.staticTypes[f.slot]? = some f.type ∧ ¬ A a
theorem vx_L.moved {C n d : String} {A : Nat → Prop} {u U : State} {H : Heap} (hvm : u.vm.Alike U.vm) (h : vx_L C n d A u H) : vx_L C n d A U H := by
  obtain ⟨c, k, i, f, a, cell, h1, h2, h3, h4, h5, h6, h7, h8, h9, h10⟩ := h
  obtain ⟨k', hi', he⟩ := State.fieldFound?_setVm hvm h2
  exact ⟨c, k', i, f, a, cell, by rw [hvm.findClass]; exact h1, hi', h3, by rw [he]; exact h4, h5, h6, h7, h8, by rw [he]; exact h9, h10⟩
theorem vx_L.kept {C n d : String} {A : Nat → Prop} {U : State} {H H1 : Heap} (h : vx_L C n d A U H) (hq : ∀ a : Nat, a < H.size → ¬ A a → H1[a]? = H[a]?) : vx_L C n d A U H1 := by
  obtain ⟨c, k, i, f, a, cell, h1, h2, h3, h4, h5, h6, h7, h8, h9, h10⟩ := h
  exact ⟨c, k, i, f, a, cell, h1, h2, h3, h4, by rw [hq a (Array.getElem?_eq_some_iff.mp h5).1 h10]; exact h5, h6, h7, h8, h9, h10⟩
theorem vx_L.narrow {C n d : String} {A B : Nat → Prop} {U : State} {H : Heap} (h : vx_L C n d A U H) (hAB : ∀ q, B q → A q) : vx_L C n d B U H := by
  obtain ⟨c, k, i, f, a, cell, h1, h2, h3, h4, h5, h6, h7, h8, h9, h10⟩ := h
  exact ⟨c, k, i, f, a, cell, h1, h2, h3, h4, h5, h6, h7, h8, h9, fun z => h10 (hAB _ z)⟩
theorem vx_L.word {C n d : String} {A : Nat → Prop} {s : State} {args : Array Value} (h : vx_L C n d A s s.heap) : (Cond.laysStatic C n d).before args s = true := by
  obtain ⟨c, k, i, f, a, cell, h1, h2, h3, h4, h5, h6, h7, h8, h9, -⟩ := h
  show (Cond.laysStatic C n d).holds args s none s [] = true
  exact Cond.laysStatic_of h1 h2 h3 h4 h5 h6 h7 h8 h9
/-- .. and what it holds: null or some reference -/
def vx_Zq (C n d : String) (A : Nat → Prop) (U : State) (H : Heap) : Prop := va_Zq C n d A U H ∧ vx_L C n d A U H
theorem vx_Zq.moved {C n d : String} {A : Nat → Prop} {u U : State} {H : Heap} (hvm : u.vm.Alike U.vm) (h : vx_Zq C n d A u H) : vx_Zq C n d A U H := ⟨va_Zq.moved hvm h.1, vx_L.moved hvm h.2⟩
theorem vx_Zq.kept {C n d : String} {A : Nat → Prop} {U : State} {H H1 : Heap} (h : vx_Zq C n d A U H) (hq : ∀ a : Nat, a < H.size → ¬ A a → H1[a]? = H[a]?) : vx_Zq C n d A U H1 := ⟨va_Zq.kept h.1 hq, vx_L.kept h.2 hq⟩
theorem vx_Zq.narrow {C n d : String} {A B : Nat → Prop} {U : State} {H : Heap} (h : vx_Zq C n d A U H) (hAB : ∀ q, B q → A q) : vx_Zq C n d B U H := ⟨va_Zq.narrow h.1 hAB, vx_L.narrow h.2 hAB⟩
theorem vx_Zqof {args : Array Value} {s : State} {C n d : String} {A : Nat → Prop} (hl : (Cond.laysStatic C n d).before args s = true) (hini : (Cond.initialized C).before args s = true) (h : (Cond.isRef (.static C n d)).before args s = true) (hA : ∀ a : Nat, a < s.heap.size → ¬ A a) : vx_Zq C n d A s s.heap := by
  refine ⟨va_Zqof hl hini h hA, ?_⟩
  obtain ⟨c, k, i, f, a, cell, h1, h2, h3, h4, h5, h6, h7, h8, h9⟩ := Cond.laysStatic_spec hl
  exact ⟨c, k, i, f, a, cell, h1, h2, h3, h4, h5, h6, h7, h8, h9, hA a (Array.getElem?_eq_some_iff.mp h5).1⟩
theorem vx_isRef {C n d : String} {v : Value} {A : Nat → Prop} {s : State} {args : Array Value} (h : va_Z C n d v A s s.heap) (hv : v.isRef = true) : (Cond.isRef (.static C n d)).before args s = true := by
  obtain ⟨cf, kf, fi, f, a, cell, h1, h2, h3, h4, h5, h6, h7, -⟩ := h
  have he : (Term.static C n d).eval args s none [] s = some v := by
    simp [Term.eval, State.fieldNamed?, h1, h2, h4, h5, h6, h7]
  simp only [Cond.before, Cond.holds, Cond.value, he]
  cases v <;> simp_all [Value.isRef]
theorem vx_isRefq {C n d : String} {A : Nat → Prop} {s : State} {args : Array Value} (h : va_Zq C n d A s s.heap) : (Cond.isRef (.static C n d)).before args s = true := by
  rcases h with h | ⟨t, h⟩
  · exact vx_isRef h rfl
  · exact vx_isRef h rfl
/-- the same frame, seen from here: as if the method were called anew in this heap -/
theorem vx_rebase {T : State} (X : Stand p l e R s m args below meth c T locs cells slots) {R' : Room} (hf : R'.frames ≤ R.frames) (hl : R'.locals ≤ R.locals) (hc : cells + R'.cells ≤ R.cells) (hs : slots + R'.slots ≤ R.slots) :
    Stand p l e R' ((T.setVm s.vm).setFrames (.invoking m args :: below)) m args below meth c T [] 0 0 := by
  have htop : (T.setVm s.vm).topJava?.isSome := X.here.top
  have hF : ((T.setVm s.vm).setFrames (.invoking m args :: below)).frames = .invoking m args :: below := State.frames_setFrames _ (State.cur_lt_of_top htop)
  obtain ⟨g₀, hg0⟩ := Option.isSome_iff_exists.mp htop
  obtain ⟨r, hr⟩ := State.topJava?_eq_some.mp hg0
  have hl9 : e.platform.stackLimits (T.setVm s.vm).me = e.platform.stackLimits s.me := X.limits
  have hb9 : (T.setVm s.vm).me.stackBytes = s.me.stackBytes := X.bytes
  refine ⟨X.admits, X.cas, X.clock, hF, ?_, X.hears, X.method, X.code, X.here, X.tail, X.warmed, ?_, ?_, ?_⟩
  · have h := X.room
    have hU : ((T.setVm s.vm).setFrames (.invoking m args :: below)).localsInUse = s.localsInUse := by
      rw [State.localsInUse_invoking hF (meth := meth) (c := c) X.method X.code, State.localsInUse_invoking X.frames X.method X.code]
    simp only [State.hasRoom, Bool.and_eq_true, decide_eq_true_eq] at h ⊢
    obtain ⟨⟨⟨⟨h1, h2, h3, h4, h5, h6⟩, h7⟩, h8⟩, h9⟩ := h
    rw [X.frames, List.length_cons] at h2 h3
    have q1 := X.heapSize
    have q2 := X.used
    simp only [hF, hU, List.length_cons, State.stackLimits_setFrames, State.stackBytes_setFrames, hl9, hb9]
    refine ⟨⟨⟨⟨by omega, by omega, by omega, by omega, by omega, h6⟩, ?_⟩, ?_⟩, X.book⟩
    · show T.heap.size + R'.cells ≤ e.platform.maxCells
      omega
    · show T.slotsUsed + R'.slots ≤ e.platform.maxSlots
      omega
  · rw [State.stackLimits_setFrames]; rfl
  · rw [State.stackBytes_setFrames]; rfl
  · refine ⟨?_, Nat.le_refl _, Nat.le_refl _, ?_, ?_, fun a c9 h9 => ⟨c9, h9, rfl, rfl, fun _ _ => rfl⟩⟩
    · obtain ⟨t, ht, -⟩ := State.frames_cons hr
      show T.setVm s.vm = { ((T.setVm s.vm).setFrames (.invoking m args :: below)).setFrames (T.setVm s.vm).frames with heap := T.heap, slotsUsed := T.slotsUsed }
      rw [State.setFrames_setFrames, State.setFrames_self ht]
      rfl
    · show T.slotsUsed = T.slotsUsed + ((T.heap.toList.drop T.heap.size).map (·.slots.size)).sum
      rw [List.drop_eq_nil_of_le (Nat.le_of_eq Array.length_toList)]
      rfl
    · show ((T.heap.toList.drop T.heap.size).map (·.slots.size)).sum ≤ 0
      rw [List.drop_eq_nil_of_le (Nat.le_of_eq Array.length_toList)]
      exact Nat.le_refl _
/-- 'throw new E()': new; dup; invokespecial; athrow -/
theorem vx_throw0 {cc : ByteArray} {pc : Nat} (hexec : p.tables.exec = Jvm.exec) (hb : c.code = cc) (hl : l.stackTraces = false) {own cls : String} {names : List String} {ik ic mc ms : Nat} {A : Nat → Prop}
    (hown : s.vm.findClass own = some m.cls) (hcls : Bundle.fit cls = true) (hnames : ∀ n ∈ names, Bundle.fit n = true)
    (hk : (Cond.classLink own ik cls).before args s = true) (hini : (Cond.initialized cls).before args s = true) (hat : ∀ w ∈ vx_at0 own ic cls names, w.before args s = true)
    (hgood : ∀ w ∈ Cond.classLink own ik cls :: Cond.initialized cls :: vx_at0 own ic cls names, vx_ot w = true)
    (hU : vx_Zq Bundle.tN "UNASSIGNED_STACK" Bundle.steD A s s.heap) (hN : vx_Zq Bundle.tN "SUPPRESSED_SENTINEL" Bundle.listD A s s.heap) (hS : va_S A s.heap H locs) (hsize : ls.size = c.maxLocals)
    (d0 : decode cc pc = .ok (.new ik, 3)) (d3 : decode cc (pc + 3) = .ok (.dup, 1)) (d4 : decode cc (pc + 4) = .ok (.invokespecial ic, 3)) (d7 : decode cc (pc + 7) = .ok (.athrow, 1))
    (hout : ∀ x ∈ c.exceptionTable.toList, covers x (pc + 7) = false)
    (hRframes : names.length + 3 < R.frames) (hRlocals : (rest.map fun v => v.category).sum + (13 * (names.length + 1) + 42) ≤ R.locals) (hRcells : cells + 1 ≤ R.cells) (hRslots : slots + 6 ≤ R.slots) (hlocks : meth.locks = false)
    (hx : ∀ t : State, s.vm.Alike t.vm → H.size ≤ t.heap.size → (∀ q : Nat, q < H.size → t.heap[q]? = H[q]?) → XC cls s t)
    (hf : ∀ z ∈ locs, free z.base) (hc : cells + 1 ≤ mc) (hs : slots + 6 ≤ ms) :
    W p l e R s m args below meth c H locs cells slots (vx_MQ below Qc XC args s mc ms free) (F0 m pc ls rest) := by
  intro T hT X
  have htr : e.platform.stackTraces = false := (show e.platform.stackTraces = l.stackTraces by rw [X.admits.platform]).trans hl
  have Y := vx_rebase X (R' := { frames := R.frames, locals := R.locals, cells := 1, slots := 6 }) (Nat.le_refl _) (Nat.le_refl _) hRcells hRslots
  obtain ⟨s', hA⟩ : ∃ z, z = (T.setVm s.vm).setFrames (.invoking m args :: below) := ⟨_, rfl⟩
  rw [← hA] at Y
  have hvm : s'.vm = s.vm := by rw [hA]; rfl
  have hhp : s'.heap = H := by rw [hA]; exact hT
  have hW0 : s.WarmedH s'.vm := by rw [hvm]; exact State.WarmedH.refl s
  have hat' : ∀ w ∈ vx_at0 own ic cls names, w.before args s' = true := fun w hw => vx_ot_at hW0 hvm.symm (hgood w (List.mem_cons_of_mem _ (List.mem_cons_of_mem _ hw))) (hat w hw)
  have hk' : (Cond.classLink own ik cls).before args s' = true := vx_ot_at hW0 hvm.symm (hgood _ List.mem_cons_self) hk
  have hini' : (Cond.initialized cls).before args s' = true := vx_ot_at hW0 hvm.symm (hgood _ (List.mem_cons_of_mem _ List.mem_cons_self)) hini
  have hU' : vx_Zq Bundle.tN "UNASSIGNED_STACK" Bundle.steD A s' s'.heap := by rw [hhp]; exact vx_Zq.moved hW0.alike (hU.kept hS.2.1)
  have hN' : vx_Zq Bundle.tN "SUPPRESSED_SENTINEL" Bundle.listD A s' s'.heap := by rw [hhp]; exact vx_Zq.moved hW0.alike (hN.kept hS.2.1)
  have h : ∀ w ∈ Bundle.ownAtoms0 own ic cls names, w.before args s' = true := vx_own hat' (vx_isRefq hU'.1) (vx_isRefq hN'.1) hU'.2.word hN'.2.word
  have hown' : s'.vm.findClass own = some m.cls := by rw [hvm]; exact hown
  have hins : (Cond.instantiable cls 6).before args s' = true := h _ (by simp [Bundle.ownAtoms0])
  obtain ⟨vm₁, cX, kX, hfX, hkX, -, -, X₁, st1⟩ := Y.newCold hexec (own := own) (C := cls) (index := ik) (n := 6) hown' hk' hins hini'
    (g := F0 m pc ls rest) rfl (by rw [hb]; exact d0) (Nat.le_refl _) (Nat.le_refl _)
  generalize hT1 : (T.setVm vm₁).pushCell { cls := cX, slots := kX.instanceTypes.map defaultValue, vm := .none } = T1 at X₁ st1
  have hcat : (Value.ref T.heap.size).category = 1 := rfl
  have hcellA : T1.heap[T.heap.size]? = some (freshCell cX kX) := by rw [← hT1]; exact State.heap_pushCell_size _ _
  have d3' : decode c.code (pc + 3) = .ok (.dup, 1) := by rw [hb]; exact d3
  obtain ⟨U, hsteps, hrun, hend, hW, hsame, ce, hce, hO⟩ := X₁.ctorThrow0 hexec htr (own := own) (cls := cls) (names := names) (ic := ic) hown' hcls hnames h (fun x hx => nomatch hx) hfX hkX hcellA (by rw [hhp, hT]; exact Nat.le_refl _)
    (g := { method := m, pc := pc + 4, locals := ls, stack := .ref T.heap.size :: .ref T.heap.size :: rest, locked := none }) rfl hsize rfl rfl (rest := rest) rfl
    (by rw [hb]; exact d4) (by rw [hb]; exact d7) hout hRframes (by simp only [List.map_cons, List.sum_cons, hcat]; omega) hlocks
  obtain ⟨f1, f2⟩ := vx_frame hsame
  rw [hhp] at f1 f2
  have hWs : s.WarmedH U.vm := State.WarmedH.trans hW0 hW
  have hcl : s.vm.findClass cls = some ce.cls := by
    have h9 := hO.cls
    rw [hvm] at h9
    exact h9
  have hall : s.sameButNew ({ U with vm := s.vm } : State) locs mc ms := by
    subst hA
    obtain ⟨e1, e2⟩ := hsame
    rw [State.setFrames_setFrames] at e1
    have h2 : (T.setVm s.vm).sameButNew ({ U with vm := s.vm } : State) [] (0 + 1) (0 + 6) := ⟨e1, e2⟩
    have h3 := X.same.trans h2
    rw [List.append_nil] at h3
    exact h3.mono hc hs
  refine ⟨U, ?_, .threw T.heap.size, hrun, hend, Or.inr ⟨T.heap.size, rfl, cls, ce, locs, hx U hWs.alike f1 (fun q hq => f2 q hq (fun z hz => nomatch hz)), hce, hO.vm, hcl, hWs, hall, hf⟩⟩
  refine st1 _ ?_
  show Steps p.tables e below (T1.setTop { method := m, pc := pc + 3, locals := ls, stack := .ref T.heap.size :: rest, locked := none }) _
  jvm_step X₁.here [X₁.here.top, hexec, d3', Value.category]
  exact hsteps
/-- 'throw new E("text")': new; dup; ldc; invokespecial; athrow -/
theorem vx_throwS {cc : ByteArray} {pc : Nat} (hexec : p.tables.exec = Jvm.exec) (hb : c.code = cc) (hl : l.stackTraces = false) {own cls text : String} {names : List String} {ik is ic mc ms sa : Nat} {A : Nat → Prop}
    (hown : s.vm.findClass own = some m.cls) (hcls : Bundle.fit cls = true) (hnames : ∀ n ∈ names, Bundle.fit n = true)
    (hk : (Cond.classLink own ik cls).before args s = true) (hini : (Cond.initialized cls).before args s = true) (hstr : vk_R own is text sa s) (hat : ∀ w ∈ vx_atS own ic cls names, w.before args s = true)
    (hgood : ∀ w ∈ Cond.classLink own ik cls :: Cond.initialized cls :: vx_atS own ic cls names, vx_ot w = true)
    (hU : vx_Zq Bundle.tN "UNASSIGNED_STACK" Bundle.steD A s s.heap) (hN : vx_Zq Bundle.tN "SUPPRESSED_SENTINEL" Bundle.listD A s s.heap) (hS : va_S A s.heap H locs) (hsize : ls.size = c.maxLocals)
    (d0 : decode cc pc = .ok (.new ik, 3)) (d3 : decode cc (pc + 3) = .ok (.dup, 1)) (d4 : decode cc (pc + 4) = .ok (.ldc is, 2)) (d6 : decode cc (pc + 6) = .ok (.invokespecial ic, 3)) (d9 : decode cc (pc + 9) = .ok (.athrow, 1))
    (hout : ∀ x ∈ c.exceptionTable.toList, covers x (pc + 9) = false)
    (hRframes : names.length + 3 < R.frames) (hRlocals : (rest.map fun v => v.category).sum + (13 * (names.length + 1) + 43) ≤ R.locals) (hRcells : cells + 1 ≤ R.cells) (hRslots : slots + 6 ≤ R.slots) (hlocks : meth.locks = false)
    (hx : ∀ t : State, s.vm.Alike t.vm → H.size ≤ t.heap.size → (∀ q : Nat, q < H.size → t.heap[q]? = H[q]?) → XC cls s t)
    (hf : ∀ z ∈ locs, free z.base) (hc : cells + 1 ≤ mc) (hs : slots + 6 ≤ ms) :
    W p l e R s m args below meth c H locs cells slots (vx_MQ below Qc XC args s mc ms free) (F0 m pc ls rest) := by
  intro T hT X
  have htr : e.platform.stackTraces = false := (show e.platform.stackTraces = l.stackTraces by rw [X.admits.platform]).trans hl
  have Y := vx_rebase X (R' := { frames := R.frames, locals := R.locals, cells := 1, slots := 6 }) (Nat.le_refl _) (Nat.le_refl _) hRcells hRslots
  obtain ⟨s', hA⟩ : ∃ z, z = (T.setVm s.vm).setFrames (.invoking m args :: below) := ⟨_, rfl⟩
  rw [← hA] at Y
  have hvm : s'.vm = s.vm := by rw [hA]; rfl
  have hhp : s'.heap = H := by rw [hA]; exact hT
  have hW0 : s.WarmedH s'.vm := by rw [hvm]; exact State.WarmedH.refl s
  have hat' : ∀ w ∈ vx_atS own ic cls names, w.before args s' = true := fun w hw => vx_ot_at hW0 hvm.symm (hgood w (List.mem_cons_of_mem _ (List.mem_cons_of_mem _ hw))) (hat w hw)
  have hk' : (Cond.classLink own ik cls).before args s' = true := vx_ot_at hW0 hvm.symm (hgood _ List.mem_cons_self) hk
  have hini' : (Cond.initialized cls).before args s' = true := vx_ot_at hW0 hvm.symm (hgood _ (List.mem_cons_of_mem _ List.mem_cons_self)) hini
  have hU' : vx_Zq Bundle.tN "UNASSIGNED_STACK" Bundle.steD A s' s'.heap := by rw [hhp]; exact vx_Zq.moved hW0.alike (hU.kept hS.2.1)
  have hN' : vx_Zq Bundle.tN "SUPPRESSED_SENTINEL" Bundle.listD A s' s'.heap := by rw [hhp]; exact vx_Zq.moved hW0.alike (hN.kept hS.2.1)
  have h : ∀ w ∈ Bundle.ownAtoms own ic cls names, w.before args s' = true := vx_own hat' (vx_isRefq hU'.1) (vx_isRefq hN'.1) hU'.2.word hN'.2.word
  have hown' : s'.vm.findClass own = some m.cls := by rw [hvm]; exact hown
  have hins : (Cond.instantiable cls 6).before args s' = true := h _ (by simp [Bundle.ownAtoms])
  obtain ⟨vm₁, cX, kX, hfX, hkX, -, -, X₁, st1⟩ := Y.newCold hexec (own := own) (C := cls) (index := ik) (n := 6) hown' hk' hins hini'
    (g := F0 m pc ls rest) rfl (by rw [hb]; exact d0) (Nat.le_refl _) (Nat.le_refl _)
  generalize hT1 : (T.setVm vm₁).pushCell { cls := cX, slots := kX.instanceTypes.map defaultValue, vm := .none } = T1 at X₁ st1
  have hcat : (Value.ref T.heap.size).category = 1 := rfl
  have hcellA : T1.heap[T.heap.size]? = some (freshCell cX kX) := by rw [← hT1]; exact State.heap_pushCell_size _ _
  have d3' : decode c.code (pc + 3) = .ok (.dup, 1) := by rw [hb]; exact d3
  have d4' : decode c.code (pc + 4) = .ok (.ldc is, 2) := by rw [hb]; exact d4
  have hstr' : vk_R own is text sa s' := vk_R.warm hW0 hstr
  obtain ⟨U, hsteps, hrun, hend, hW, hsame, ce, hce, hO⟩ := X₁.ctorThrowS hexec htr (own := own) (cls := cls) (names := names) (ic := ic) hown' hcls hnames h (fun x hx => nomatch hx) hfX hkX hcellA (by rw [hhp, hT]; exact Nat.le_refl _) (msg := .ref sa) rfl
    (g := { method := m, pc := pc + 6, locals := ls, stack := .ref sa :: .ref T.heap.size :: .ref T.heap.size :: rest, locked := none }) rfl hsize rfl rfl (rest := rest) rfl
    (by rw [hb]; exact d6) (by rw [hb]; exact d9) hout hRframes (by simp only [List.map_cons, List.sum_cons, hcat]; omega) hlocks
  obtain ⟨f1, f2⟩ := vx_frame hsame
  rw [hhp] at f1 f2
  have hWs : s.WarmedH U.vm := State.WarmedH.trans hW0 hW
  have hcl : s.vm.findClass cls = some ce.cls := by
    have h9 := hO.cls
    rw [hvm] at h9
    exact h9
  have hall : s.sameButNew ({ U with vm := s.vm } : State) locs mc ms := by
    subst hA
    obtain ⟨e1, e2⟩ := hsame
    rw [State.setFrames_setFrames] at e1
    have h2 : (T.setVm s.vm).sameButNew ({ U with vm := s.vm } : State) [] (0 + 1) (0 + 6) := ⟨e1, e2⟩
    have h3 := X.same.trans h2
    rw [List.append_nil] at h3
    exact h3.mono hc hs
  refine ⟨U, ?_, .threw T.heap.size, hrun, hend, Or.inr ⟨T.heap.size, rfl, cls, ce, locs, hx U hWs.alike f1 (fun q hq => f2 q hq (fun z hz => nomatch hz)), hce, hO.vm, hcl, hWs, hall, hf⟩⟩
  refine st1 _ ?_
  show Steps p.tables e below (T1.setTop { method := m, pc := pc + 3, locals := ls, stack := .ref T.heap.size :: rest, locked := none }) _
  jvm_step X₁.here [X₁.here.top, hexec, d3', Value.category]
  exact X₁.ldcString hexec (own := own) (text := text) (index := is) (a := sa) hown' hstr'.1 hstr'.2
    (g := { method := m, pc := pc + 4, locals := ls, stack := .ref T.heap.size :: .ref T.heap.size :: rest, locked := none }) rfl d4' _ hsteps
/-- 'throw new E("text")', the text by a wide index -/
theorem vx_throwSW {cc : ByteArray} {pc : Nat} (hexec : p.tables.exec = Jvm.exec) (hb : c.code = cc) (hl : l.stackTraces = false) {own cls text : String} {names : List String} {ik is ic mc ms sa : Nat} {A : Nat → Prop}
    (hown : s.vm.findClass own = some m.cls) (hcls : Bundle.fit cls = true) (hnames : ∀ n ∈ names, Bundle.fit n = true)
    (hk : (Cond.classLink own ik cls).before args s = true) (hini : (Cond.initialized cls).before args s = true) (hstr : vk_R own is text sa s) (hat : ∀ w ∈ vx_atS own ic cls names, w.before args s = true)
    (hgood : ∀ w ∈ Cond.classLink own ik cls :: Cond.initialized cls :: vx_atS own ic cls names, vx_ot w = true)
    (hU : vx_Zq Bundle.tN "UNASSIGNED_STACK" Bundle.steD A s s.heap) (hN : vx_Zq Bundle.tN "SUPPRESSED_SENTINEL" Bundle.listD A s s.heap) (hS : va_S A s.heap H locs) (hsize : ls.size = c.maxLocals)
    (d0 : decode cc pc = .ok (.new ik, 3)) (d3 : decode cc (pc + 3) = .ok (.dup, 1)) (d4 : decode cc (pc + 4) = .ok (.ldc_w is, 3)) (d7 : decode cc (pc + 7) = .ok (.invokespecial ic, 3)) (d10 : decode cc (pc + 10) = .ok (.athrow, 1))
    (hout : ∀ x ∈ c.exceptionTable.toList, covers x (pc + 10) = false)
    (hRframes : names.length + 3 < R.frames) (hRlocals : (rest.map fun v => v.category).sum + (13 * (names.length + 1) + 43) ≤ R.locals) (hRcells : cells + 1 ≤ R.cells) (hRslots : slots + 6 ≤ R.slots) (hlocks : meth.locks = false)
    (hx : ∀ t : State, s.vm.Alike t.vm → H.size ≤ t.heap.size → (∀ q : Nat, q < H.size → t.heap[q]? = H[q]?) → XC cls s t)
    (hf : ∀ z ∈ locs, free z.base) (hc : cells + 1 ≤ mc) (hs : slots + 6 ≤ ms) :
    W p l e R s m args below meth c H locs cells slots (vx_MQ below Qc XC args s mc ms free) (F0 m pc ls rest) := by
  intro T hT X
  have htr : e.platform.stackTraces = false := (show e.platform.stackTraces = l.stackTraces by rw [X.admits.platform]).trans hl
  have Y := vx_rebase X (R' := { frames := R.frames, locals := R.locals, cells := 1, slots := 6 }) (Nat.le_refl _) (Nat.le_refl _) hRcells hRslots
  obtain ⟨s', hA⟩ : ∃ z, z = (T.setVm s.vm).setFrames (.invoking m args :: below) := ⟨_, rfl⟩
  rw [← hA] at Y
  have hvm : s'.vm = s.vm := by rw [hA]; rfl
  have hhp : s'.heap = H := by rw [hA]; exact hT
  have hW0 : s.WarmedH s'.vm := by rw [hvm]; exact State.WarmedH.refl s
  have hat' : ∀ w ∈ vx_atS own ic cls names, w.before args s' = true := fun w hw => vx_ot_at hW0 hvm.symm (hgood w (List.mem_cons_of_mem _ (List.mem_cons_of_mem _ hw))) (hat w hw)
  have hk' : (Cond.classLink own ik cls).before args s' = true := vx_ot_at hW0 hvm.symm (hgood _ List.mem_cons_self) hk
  have hini' : (Cond.initialized cls).before args s' = true := vx_ot_at hW0 hvm.symm (hgood _ (List.mem_cons_of_mem _ List.mem_cons_self)) hini
  have hU' : vx_Zq Bundle.tN "UNASSIGNED_STACK" Bundle.steD A s' s'.heap := by rw [hhp]; exact vx_Zq.moved hW0.alike (hU.kept hS.2.1)
  have hN' : vx_Zq Bundle.tN "SUPPRESSED_SENTINEL" Bundle.listD A s' s'.heap := by rw [hhp]; exact vx_Zq.moved hW0.alike (hN.kept hS.2.1)
  have h : ∀ w ∈ Bundle.ownAtoms own ic cls names, w.before args s' = true := vx_own hat' (vx_isRefq hU'.1) (vx_isRefq hN'.1) hU'.2.word hN'.2.word
  have hown' : s'.vm.findClass own = some m.cls := by rw [hvm]; exact hown
  have hins : (Cond.instantiable cls 6).before args s' = true := h _ (by simp [Bundle.ownAtoms])
  obtain ⟨vm₁, cX, kX, hfX, hkX, -, -, X₁, st1⟩ := Y.newCold hexec (own := own) (C := cls) (index := ik) (n := 6) hown' hk' hins hini'
    (g := F0 m pc ls rest) rfl (by rw [hb]; exact d0) (Nat.le_refl _) (Nat.le_refl _)
  generalize hT1 : (T.setVm vm₁).pushCell { cls := cX, slots := kX.instanceTypes.map defaultValue, vm := .none } = T1 at X₁ st1
  have hcat : (Value.ref T.heap.size).category = 1 := rfl
  have hcellA : T1.heap[T.heap.size]? = some (freshCell cX kX) := by rw [← hT1]; exact State.heap_pushCell_size _ _
  have d3' : decode c.code (pc + 3) = .ok (.dup, 1) := by rw [hb]; exact d3
  have d4' : decode c.code (pc + 4) = .ok (.ldc_w is, 3) := by rw [hb]; exact d4
  have hstr' : vk_R own is text sa s' := vk_R.warm hW0 hstr
  obtain ⟨U, hsteps, hrun, hend, hW, hsame, ce, hce, hO⟩ := X₁.ctorThrowS hexec htr (own := own) (cls := cls) (names := names) (ic := ic) hown' hcls hnames h (fun x hx => nomatch hx) hfX hkX hcellA (by rw [hhp, hT]; exact Nat.le_refl _) (msg := .ref sa) rfl
    (g := { method := m, pc := pc + 7, locals := ls, stack := .ref sa :: .ref T.heap.size :: .ref T.heap.size :: rest, locked := none }) rfl hsize rfl rfl (rest := rest) rfl
    (by rw [hb]; exact d7) (by rw [hb]; exact d10) hout hRframes (by simp only [List.map_cons, List.sum_cons, hcat]; omega) hlocks
  obtain ⟨f1, f2⟩ := vx_frame hsame
  rw [hhp] at f1 f2
  have hWs : s.WarmedH U.vm := State.WarmedH.trans hW0 hW
  have hcl : s.vm.findClass cls = some ce.cls := by
    have h9 := hO.cls
    rw [hvm] at h9
    exact h9
  have hall : s.sameButNew ({ U with vm := s.vm } : State) locs mc ms := by
    subst hA
    obtain ⟨e1, e2⟩ := hsame
    rw [State.setFrames_setFrames] at e1
    have h2 : (T.setVm s.vm).sameButNew ({ U with vm := s.vm } : State) [] (0 + 1) (0 + 6) := ⟨e1, e2⟩
    have h3 := X.same.trans h2
    rw [List.append_nil] at h3
    exact h3.mono hc hs
  refine ⟨U, ?_, .threw T.heap.size, hrun, hend, Or.inr ⟨T.heap.size, rfl, cls, ce, locs, hx U hWs.alike f1 (fun q hq => f2 q hq (fun z hz => nomatch hz)), hce, hO.vm, hcl, hWs, hall, hf⟩⟩
  refine st1 _ ?_
  show Steps p.tables e below (T1.setTop { method := m, pc := pc + 3, locals := ls, stack := .ref T.heap.size :: rest, locked := none }) _
  jvm_step X₁.here [X₁.here.top, hexec, d3', Value.category]
  exact X₁.ldcStringW hexec (own := own) (text := text) (index := is) (a := sa) hown' hstr'.1 hstr'.2
    (g := { method := m, pc := pc + 4, locals := ls, stack := .ref T.heap.size :: .ref T.heap.size :: rest, locked := none }) rfl d4' _ hsteps
end Ends
section Bodies
variable {l : Launch}
theorem vx_ofW {y : MethodName} {ws ws' : List Cond} {rm : Room} {Pc : Array Value → State → Prop} {Qc : Array Value → State → Outcome → State → Prop} {XC : String → State → State → Prop} {mc ms : Nat} {free : Addr → Prop} {cc : ByteArray} {maxL : Nat} {ret : Option FieldType}
    (hy : plainName y.cls = true) (hw : ws = Cond.code y cc maxL ret :: ws')
    (body : ∀ p e s m args below meth c s₁, BodyLoose p l y (headSpec ws rm) cc maxL ret e s m args below meth c s₁ → c.maxLocals = maxL → (∀ x ∈ c.exceptionTable.toList, False) → Pc args s →
      W p l e (headSpec ws rm).room s m args below meth c s.heap [] 0 0 (vx_MQ below Qc XC args s mc ms free) (entryFrame m args maxL)) : vx_Met l y ws rm Pc Qc XC mc ms free := by
  refine MetFree.of_bodyS (code := cc) (maxLocals := maxL) (ret := ret) hy ?_ ?_
  · intro args s m h hn
    obtain ⟨meth, c, h1, h2, h3, h4, h5, h6, -, -⟩ := Cond.code_spec hn (atoms_spec (ws := ws) h _ (by rw [hw]; exact List.mem_cons_self))
    exact ⟨meth, c, h1, h2, h3, h4, h5, h6⟩
  · intro p e s m args below meth c s₁ B hml hP _
    have hh0 : s₁.heap = s.heap := by rw [B.state]; rfl
    have ht : ∀ x ∈ c.exceptionTable.toList, False := by
      obtain ⟨meth9, c9, h1, h2, -, -, -, -, h7, -⟩ := Cond.code_spec B.named (atoms_spec (ws := ws) B.pre _ (by rw [hw]; exact List.mem_cons_self))
      cases Option.some.inj (h1.symm.trans B.method)
      cases Option.some.inj (h2.symm.trans (Stand.of_body B).code)
      intro x hx
      rw [Array.isEmpty_iff.mp h7] at hx
      cases hx
    obtain ⟨t, a1, o, b1, b2, b3⟩ := body p e s m args below meth c s₁ B hml ht hP s₁ hh0 (Stand.of_body B)
    exact ⟨t, o, a1, b1, b2, b3⟩
/-- the table of a body with handlers -/
theorem vx_table {p : Program} {x y : MethodName} {S : Spec} {cc bytes : ByteArray} {maxL maxL' : Nat} {ret ret' : Option FieldType} {e : Env} {s s₁ : State} {m : MethodId} {args : Array Value} {below : List Frame} {meth : Method} {c : Code} {hh : List (Nat × Nat × Nat × Nat)}
    (B : BodyLoose p l y S cc maxL ret e s m args below meth c s₁) (h : (Cond.codeWith y bytes maxL' ret' hh).before args s = true) : c.exceptionTable.toList = tableOf hh := by
  obtain ⟨m9, meth9, c9, hn9, h1, h2, -, -, h6, -⟩ := Cond.codeWith_spec h
  cases Option.some.inj (hn9.symm.trans B.named)
  cases Option.some.inj (h1.symm.trans B.method)
  cases Option.some.inj (h2.symm.trans (Stand.of_body B).code)
  rw [← h6, table_eq]
end Bodies
end VXA
/-! ===== END ===== -/
/-! ===== BEGIN a static call of a method with an exception table ===== -/
section VXS
variable {p : Program} {l : Launch} {e : Env} {R : Room} {s : State} {m : MethodId} {args : Array Value} {below : List Frame} {meth : Method} {c : Code} {T : State} {H : Heap} {locs : List Loc} {cells slots : Nat}
abbrev vx_CSW (R : Room) (s : State) (args : Array Value) (own : String) (index : Nat) (y : MethodName) (bytes : ByteArray) (maxL : Nat) (ret : Option FieldType) (hh : List (Nat × Nat × Nat × Nat)) (ws : List Cond) (rm : Room) (mc ms n : Nat) : Prop :=
  (rm.cells = mc ∧ rm.slots = ms ∧ rm.frames + 1 ≤ R.frames ∧ 8 + (maxL + 11) + rm.locals ≤ R.locals ∧ (∀ w ∈ ws, ∀ (a' : Array Value) (U : State), s.WarmedH U.vm → w.before a' U = true) ∧ Cond.codeWith y bytes maxL ret hh ∈ ws) ∧
  (Cond.codeWith y bytes maxL ret hh).before args s = true ∧ (Cond.initialized y.cls).before args s = true ∧ (y.cls ≠ "java/lang/invoke/MethodHandle" ∧ y.cls ≠ "java/lang/invoke/VarHandle") ∧
  (∀ sig, parseMethodDescriptor y.desc = some sig → n = sig.parameters.length) ∧ (Cond.methodLink own index y).before args s = true ∧ (Cond.static y).before args s = true
theorem vx_cwSW {own : String} {index maxL mc ms : Nat} {y : MethodName} {bytes : ByteArray} {ret : Option FieldType} {hh : List (Nat × Nat × Nat × Nat)} {Ts ws ws' : List Cond} {rm : Room} (n : Nat) (ht : ∀ w ∈ Ts, w.before args s = true) (hT : GoodIn Ts (va_wsS own index y ws)) (hw : ws = Cond.codeWith y bytes maxL ret hh :: ws') (hrc : rm.cells = mc) (hrs : rm.slots = ms)
    (hd : y.cls ≠ "java/lang/invoke/MethodHandle" ∧ y.cls ≠ "java/lang/invoke/VarHandle" ∧ (parseMethodDescriptor y.desc).map (fun d => d.parameters.length) = some n) (hR : rm.frames + 1 ≤ R.frames ∧ 8 + (maxL + 11) + rm.locals ≤ R.locals) :
    vx_CSW R s args own index y bytes maxL ret hh ws rm mc ms n := by
  have ok : ∀ w ∈ va_wsS own index y ws, w.before args s = true := fun w h => ht w (hT w h).1
  have hG : GoodIn Ts ws := fun w h => hT w (by unfold va_wsS; exact List.mem_append_right _ h)
  have hc : Cond.codeWith y bytes maxL ret hh ∈ ws := by rw [hw]; exact List.mem_cons_self
  refine ⟨⟨hrc, hrs, hR.1, hR.2, pay_in ht hG, hc⟩, ht _ (hG _ hc).1, ok _ (by simp [va_wsS]), ⟨hd.1, hd.2.1⟩, fun sig h => ?_, ok _ (by simp [va_wsS]), ok _ (by simp [va_wsS])⟩
  have h2 := hd.2.2
  rw [h] at h2
  exact (Option.some.inj h2).symm
theorem vx_callSW (X : Stand p l e R s m args below meth c T locs cells slots) (hexec : p.tables.exec = Jvm.exec) {own : String} {index : Nat} {y : MethodName} {bytes : ByteArray} {maxL : Nat} {ret : Option FieldType} {hh : List (Nat × Nat × Nat × Nat)}
    (hown : s.vm.findClass own = some m.cls) (hlink : (Cond.methodLink own index y).before args s = true) (hstat : (Cond.static y).before args s = true) (hinit : (Cond.initialized y.cls).before args s = true)
    (hcode : (Cond.codeWith y bytes maxL ret hh).before args s = true) (hy : y.cls ≠ "java/lang/invoke/MethodHandle" ∧ y.cls ≠ "java/lang/invoke/VarHandle")
    {W9 : Nat} {Pre : Pt → Array Value → Prop} {Post : Pt → Array Value → Option Value → Pt → Prop} (hK : Back l R p e below s args y 3 W9 Pre Post)
    {g : JFrame} (hg : g.method = m) (hsize : g.locals.size = c.maxLocals) {argsL rest : List Value} (hlen : ∀ sig, parseMethodDescriptor y.desc = some sig → argsL.length = sig.parameters.length)
    (hstack : g.stack = argsL.reverse ++ rest) (hW : 2 * g.monitorRoom + (rest.map fun v => v.category).sum ≤ W9) (hdg : decode c.code g.pc = .ok (.invokestatic index, 3))
    (hpre : ∀ vm₁, s.WarmedH vm₁ → Pre ⟨T.setVm vm₁, locs, cells, slots⟩ argsL.toArray) :
    ∃ (v : Option Value) (vm₁ : Vm) (B : Pt), s.WarmedH vm₁ ∧ Stand p l e R s m args below meth c B.U B.locs B.cells B.slots ∧ Post ⟨T.setVm vm₁, locs, cells, slots⟩ argsL.toArray v B ∧
      ∀ target, Steps p.tables e below (B.U.setTop { g with pc := g.pc + 3, stack := v.toList ++ rest }) target → Steps p.tables e below (T.setTop g) target := by
  obtain ⟨mk, methM, cM, hnamed, hmethM, -, -, -, -, -, -, hsigM⟩ := Cond.codeWith_spec hcode
  have hstatic : methM.isStatic = true := Cond.static_spec hnamed hmethM hstat
  obtain ⟨kP, hkP, -⟩ := className_of_methodNamed hnamed
  have hinitP : kP.init = .initialized := Cond.initialized_spec (findClass_of_methodNamed hnamed) hkP hinit
  obtain ⟨vm₁, X₁, hstep₁⟩ := X.invokestatic hexec hown hlink hnamed hmethM hstatic hkP hinitP hy (g := g) hg (argsL := argsL) (rest := rest) (hlen _ hsigM) hstack hdg
  obtain ⟨v, B, X', hpost, hsteps⟩ := hK m meth c ⟨T.setVm vm₁, locs, cells, slots⟩ { g with stack := rest } (.invokestatic index) mk argsL.toArray X₁ hg hsize hdg hW (X₁.named hnamed) (hpre vm₁ X₁.warmed)
  exact ⟨v, vm₁, B, X₁.warmed, X', hpost, fun target h => hstep₁ _ fun acts => by rw [doInvoke_state]; exact hsteps.trans h⟩
theorem vx_runSW {y : MethodName} {bytes cc : ByteArray} {maxL nL mc ms n index : Nat} {ret : Option FieldType} {hh : List (Nat × Nat × Nat × Nat)} {ws : List Cond} {rm : Room} {Pc : Array Value → State → Prop} {Qc : Array Value → State → Outcome → State → Prop} {free : Addr → Prop} {Ts : List Cond} {own : String} {As rest : List Value} {g : JFrame}
    (S : CallFix p m c cc nL s args Ts own) (hM : Met l y ws rm Pc Qc mc ms free) (cw : vx_CSW R s args own index y bytes maxL ret hh ws rm mc ms n) (hp : PreS s H Pc As)
    (hg : g.method = m) (hn : As.length = n) (hsize : g.locals.size = nL) (hstack : g.stack = As.reverse ++ rest) (hW : 2 * g.monitorRoom + (rest.map fun v => v.category).sum ≤ 8) (hdg : decode cc g.pc = .ok (.invokestatic index, 3)) (hf : cells + mc ≤ R.cells ∧ slots + ms ≤ R.slots) :
    va_Run p l e R s m args below meth c H locs cells slots mc ms g rest (Qc As.toArray) (free) := by
  obtain ⟨⟨hrc, hrs, hfr, hlo, hws, hcw⟩, hcode, hini, hy, hlen, hl, hstt⟩ := cw
  have hK : Back l R p e below s args y 3 8 (PreOf R mc ms Pc) (PostOf Qc mc ms free) := va_backW (hh := hh) (bytes := bytes) (maxL := maxL) (ret := ret) hM hp.1 hrc hrs hfr hlo hws hcw (fun a' U hW => word_at hW (Or.inl (by first | rfl | simp [Cond.onTables, Cond.keeps, Cond.steady])) hini)
  obtain ⟨hx, hb, hml, ho, -⟩ := S
  intro T hT X
  obtain ⟨v, vm₁, ⟨U', l2, c2, s2⟩, hW₁, X', ⟨g', mk, t, L, e1, e2, hq, h1, hL, h2, h3⟩, st⟩ := vx_callSW X hx (hh := hh) (bytes := bytes) (maxL := maxL) (ret := ret) ho hl hstt hini hcode hy hK hg (hsize.trans hml.symm) (argsL := As) (rest := rest) (fun sig h => hn.trans (hlen sig h)) hstack hW (by rw [hb]; exact hdg)
    (fun vm₁ hW₁ => ⟨hf.1, hf.2, hp.2 (T.setVm vm₁) hT hW₁⟩)
  dsimp only [Pt.U, Pt.locs, Pt.cells, Pt.slots] at X' e1 e2 h1 h2 h3 st
  subst h1; subst h2; subst h3
  exact ⟨v, (T.setVm vm₁).calling g' mk As.toArray, t, U', L, hT, X', hL, e1, e2, hq, st⟩
/-- not caught here, past rows that name other classes: it goes on to the caller -/
theorem vx_outP {p : Program} {l : Launch} {e : Env} {R : Room} {s : State} {m : MethodId} {args : Array Value} {below : List Frame} {meth : Method} {c : Code} {H : Heap} {locs : List Loc} {cells slots : Nat} {free : Addr → Prop} {ls : Array Slot} {rest : List Value} {Qc : Array Value → State → Outcome → State → Prop} {XC : String → State → State → Prop}
    {pc : Nat} {own E : String} {ce : Cell} {q : Addr} {mc ms : Nat} (hown : s.vm.findClass own = some m.cls) (hlocks : meth.locks = false)
    (hpass : ∀ z ∈ c.exceptionTable.toList, covers z pc = false ∨ (z.catchType ≠ 0 ∧ ∃ nm : String, (Cond.classLink own z.catchType nm).before args s = true ∧ va_Nc E nm s)) (hcell : H[q]? = some ce) (hv : ce.vm = .none) (hcl : s.vm.findClass E = some ce.cls)
    (hx : ∀ t : State, t.heap = H → s.vm.Alike t.vm → XC E s t) (hf : ∀ z ∈ locs, free z.base) (hc : cells ≤ mc) (hs : slots ≤ ms) :
    vx_W p l e R s m args below meth c H locs cells slots (vx_MQ below Qc XC args s mc ms free) (F0 m pc ls rest) q := by
  intro T hT X
  have hpl : e.platform.magicAccessors = ({} : Platform).magicAccessors := by rw [X.admits.platform]
  obtain ⟨vm', hW', X', st⟩ := X.outThrough hlocks q (g := F0 m pc ls rest) rfl rfl rfl (cell := ce) (by rw [hT]; exact hcell) (by rw [hv]; rfl)
    (by obtain ⟨k9, h9, -⟩ := Vm.findClass_spec hcl; exact ⟨k9, h9⟩) (fun z hz => by
      rcases hpass z hz with h | ⟨hz0, nm, hl1, hn1⟩
      · exact Or.inl h
      · obtain ⟨c6, hc6, hcl6⟩ := Cond.classLink_spec hown hl1 e.platform hpl
        obtain ⟨a8, b8, h1, h2, h3⟩ := hn1
        cases Option.some.inj (h1.symm.trans hcl)
        cases Option.some.inj (h2.symm.trans hc6)
        exact Or.inr ⟨hz0, _, hcl6, h3⟩)
  obtain ⟨g₀, hfr⟩ := X'.frames_eq
  have hcell9 : ((T.setVm vm').setFrames (.throwing q :: below)).heap[q]? = some ce := by
    show T.heap[q]? = some ce
    rw [hT]; exact hcell
  have hend : Ended ((T.setVm vm').setFrames (.throwing q :: below)) below (.threw q) := State.frames_setFrames _ (State.cur_lt_of_frames hfr)
  refine ⟨(T.setVm vm').setFrames (.throwing q :: below), ?_, .threw q, X'.here.running, hend, Or.inr ⟨q, rfl, E, ce, locs, hx _ hT (X'.ends _).1.alike, hcell9, hv, hcl, (X'.ends _).1, (X'.ends _).2.mono hc hs, hf⟩⟩
  rw [X.pushThrowing_eq]
  exact st
/-- a thing of a world lies in the heap -/
theorem vx_lt {D : va_G} {cl : List vw_C} {ws : va_W} {H1 : Heap} (h : va_P D cl ws H1) {k : Nat} {q : Nat × va_E} (hk : ws[k]? = some q) : q.1 < H1.size := (h k q hk).lt
end VXS
/-! ===== END ===== -/
/-! ===== BEGIN methods with a table of their own: called by a name, returning or throwing ===== -/
section VXH
/-! vx_backW, vx_callVX, vx_callSX, vx_callVW, vx_runVW, vx_runVX, vx_runSX, vx_ofWH follow the same proofs as their sisters above (Free/Laws.lean, Shelf42/LK1.lean); vx_outP calls Shelf42/NT130.lean (outThrough). -/
section
variable {l : Launch} {R : Room} {p : Program} {e : Env} {below : List Frame} {s : State} {sargs : Array Value} {y : MethodName} {len W9 : Nat}
theorem vx_backW {ws : List Cond} {rm : Room} {Pc : Array Value → State → Prop} {Qc : Array Value → State → Outcome → State → Prop} {XC : String → State → State → Prop} {mc ms : Nat} {free : Addr → Prop} {bytes : ByteArray} {maxL : Nat} {ret : Option FieldType} {hh : List (Nat × Nat × Nat × Nat)}
    (hM : vx_Met l y ws rm Pc Qc XC mc ms free) (hblind : FrameBlind Pc) (hrc : rm.cells = mc) (hrs : rm.slots = ms)
    (hframes : rm.frames + 1 ≤ R.frames) (hlocals : W9 + (maxL + 11) + rm.locals ≤ R.locals)
    (hws : ∀ w ∈ ws, ∀ a' U, s.WarmedH U.vm → w.before a' U = true) (hcode : Cond.codeWith y bytes maxL ret hh ∈ ws) (hinit : ∀ a' U, s.WarmedH U.vm → (Cond.initialized y.cls).before a' U = true) :
    vx_Back l R p e below s sargs y len W9 (PreOf R mc ms Pc) (PostOf Qc mc ms free) (vx_Post XC mc ms free) := by
  intro m meth c A g ig mk a X hg hsize hdg hW hn hp
  have h1 : (headSpec ws rm).pre.before a A.U = true := atoms_intro fun w hw => hws w hw _ _ X.warmed
  have h2 : (Cond.codeWith y bytes maxL ret hh).before a A.U = true := hws _ hcode _ _ X.warmed
  have h3 : (Cond.initialized y.cls).before a A.U = true := hinit _ _ X.warmed
  have h4 : A.cells + (headSpec ws rm).room.cells ≤ R.cells := by rw [show (headSpec ws rm).room.cells = mc from hrc]; exact hp.1
  have h5 : A.slots + (headSpec ws rm).room.slots ≤ R.slots := by rw [show (headSpec ws rm).room.slots = ms from hrs]; exact hp.2.1
  have hPc : Pc a (A.U.calling g mk a) := hblind _ _ _ _ hp.2.2
  obtain ⟨U, Ls, c0, s0⟩ := A
  dsimp only [Pt.U, Pt.locs, Pt.cells, Pt.slots] at h1 h2 h3 h4 h5 X hn hPc ⊢
  obtain ⟨m9, methY, cY, hn9, hmY, hcY, -, hlY, -⟩ := Cond.codeWith_spec h2
  cases Option.some.inj (hn9.symm.trans hn)
  obtain ⟨kY, hkY, -⟩ := className_of_methodNamed hn
  have hinitY : kY.init = .initialized := Cond.initialized_spec (findClass_of_methodNamed hn) hkY h3
  have h : At U g.method c below := by rw [hg]; exact X.here
  have hlocals9 : W9 + (maxL + 11) + (headSpec ws rm).room.locals ≤ R.locals := hlocals
  have happ : (headSpec ws rm).appliesLoose y e.platform (U.calling g mk a) = true :=
    Spec.appliesLoose_calling (g := g) h hdg hn hkY hinitY
      (X.room_calling (g := g) (R' := (headSpec ws rm).room) hsize hmY hcY hframes (by rw [hlY]; omega) h4 h5) h1
  obtain ⟨mid, hmid⟩ := h.above
  have hfr : (U.setTop g).frames = (.java g :: mid) ++ below := by rw [State.frames_setTop' g h.top, hmid]; rfl
  obtain ⟨o, s₂, hsteps, -, hend, hq⟩ := Steps.callFree hM p X.admits X.cas X.clock (acts := []) hfr happ hPc trivial
  have hq' : vx_Q Qc XC mc ms free a (U.calling g mk a) o s₂ := hq
  rw [State.frames_setTop' g h.top] at hend
  obtain ⟨g₀, hg0⟩ := Option.isSome_iff_exists.mp h.top
  obtain ⟨r, hr⟩ := State.topJava?_eq_some.mp hg0
  have hr' : (({ U with heap := s₂.heap, slotsUsed := s₂.slotsUsed } : State).setVm s₂.vm).frames = .java g₀ :: r := hr
  rcases hq' with ⟨hqc, L, hfe, hL⟩ | ⟨q, rfl, E, ce, L, hx, hce, hcv, hcl, hW₂, hsm, hL⟩
  · obtain ⟨⟨v, rfl⟩, hW₂, e2, q2, q3, q4, q5, q6⟩ := id hfe
    have e3 : s₂ = ({ (U.calling g mk a).setFrames s₂.frames with heap := s₂.heap, slotsUsed := s₂.slotsUsed } : State).setVm s₂.vm := by
      have : s₂ = ({ s₂ with vm := (U.calling g mk a).vm } : State).setVm s₂.vm := rfl
      rw [e2] at this
      exact this
    obtain ⟨c₂, i₂, len₂, hc₂, hd₂, hf₂⟩ := hend
    have hW' : U.WarmedH s₂.vm := hW₂
    have hcc : c₂ = c := by
      have h1 : s₂.code? g.method = U.code? g.method := by
        rw [State.code?_eq, State.code?_eq, hW'.alike.method?]
      exact Option.some.inj (hc₂.symm.trans (h1.trans h.code))
    subst hcc
    have hlen : len₂ = len := by rw [hdg] at hd₂; cases hd₂; rfl
    subst hlen
    have hs₂ : s₂ = (({ U with heap := s₂.heap, slotsUsed := s₂.slotsUsed } : State).setVm s₂.vm).setTop { g with pc := g.pc + len₂, stack := v.toList ++ g.stack } := by
      refine e3.trans ?_
      rw [hf₂, State.calling_eq h.top, State.setFrames_setFrames, State.setTop_of_frames _ hr', hr]
      rfl
    have hsame : U.sameButNew ({ U with heap := s₂.heap, slotsUsed := s₂.slotsUsed } : State) L mc ms := by
      refine ⟨?_, q2, q3, q4, q5, q6⟩
      obtain ⟨t, ht, -⟩ := State.frames_cons hr
      show ({ U with heap := s₂.heap, slotsUsed := s₂.slotsUsed } : State) = { U.setFrames U.frames with heap := s₂.heap, slotsUsed := s₂.slotsUsed }
      rw [State.setFrames_self ht]
    subst hg
    refine Or.inl ⟨v, ⟨(({ U with heap := s₂.heap, slotsUsed := s₂.slotsUsed } : State).setVm s₂.vm), Ls ++ L, c0 + mc, s0 + ms⟩,
      ⟨X.admits, X.cas, X.clock, X.frames, X.room, X.hears, X.method, X.code, (X.here.setHeapUsed s₂.heap s₂.slotsUsed).setVm hW'.alike, X.tail, State.WarmedH.trans X.warmed hW', X.limits, X.bytes, X.same.trans (hsame.setVm s.vm)⟩,
      ⟨g, mk, s₂, L, rfl, rfl, hqc, rfl, hL, rfl, rfl⟩, ?_⟩
    show Steps p.tables e below _ ((({ U with heap := s₂.heap, slotsUsed := s₂.slotsUsed } : State).setVm s₂.vm).setTop { g with pc := g.pc + len₂, stack := v.toList ++ g.stack })
    rw [← hs₂]
    exact hsteps
  · obtain ⟨e2, q2, q3, q4, q5, q6⟩ := id hsm
    have e3 : s₂ = ({ (U.calling g mk a).setFrames s₂.frames with heap := s₂.heap, slotsUsed := s₂.slotsUsed } : State).setVm s₂.vm := by
      have : s₂ = ({ s₂ with vm := (U.calling g mk a).vm } : State).setVm s₂.vm := rfl
      rw [e2] at this
      exact this
    have hf₂ : s₂.frames = .throwing q :: .java g :: U.frames.tail := hend
    have hW' : U.WarmedH s₂.vm := hW₂
    have hs₂ : s₂ = ((({ U with heap := s₂.heap, slotsUsed := s₂.slotsUsed } : State).setVm s₂.vm).setTop g).pushFrame (.throwing q) := by
      refine e3.trans ?_
      rw [hf₂, State.calling_eq h.top, State.setFrames_setFrames, State.pushFrame, State.frames_setTop _ hr', State.setTop_of_frames _ hr', State.setFrames_setFrames, hr]
      rfl
    have hsame : U.sameButNew ({ U with heap := s₂.heap, slotsUsed := s₂.slotsUsed } : State) L mc ms := by
      refine ⟨?_, q2, q3, q4, q5, q6⟩
      obtain ⟨t, ht, -⟩ := State.frames_cons hr
      show ({ U with heap := s₂.heap, slotsUsed := s₂.slotsUsed } : State) = { U.setFrames U.frames with heap := s₂.heap, slotsUsed := s₂.slotsUsed }
      rw [State.setFrames_self ht]
    subst hg
    refine Or.inr ⟨q, ⟨(({ U with heap := s₂.heap, slotsUsed := s₂.slotsUsed } : State).setVm s₂.vm), Ls ++ L, c0 + mc, s0 + ms⟩,
      ⟨X.admits, X.cas, X.clock, X.frames, X.room, X.hears, X.method, X.code, (X.here.setHeapUsed s₂.heap s₂.slotsUsed).setVm hW'.alike, X.tail, State.WarmedH.trans X.warmed hW', X.limits, X.bytes, X.same.trans (hsame.setVm s.vm)⟩,
      ⟨g, mk, s₂, L, E, ce, rfl, rfl, hx, hce, hcv, hcl, rfl, hL, rfl, rfl⟩, ?_⟩
    show Steps p.tables e below _ (((({ U with heap := s₂.heap, slotsUsed := s₂.slotsUsed } : State).setVm s₂.vm).setTop g).pushFrame (.throwing q))
    rw [← hs₂]
    exact hsteps
end
variable {p : Program} {l : Launch} {e : Env} {R : Room} {s : State} {m : MethodId} {args : Array Value} {below : List Frame} {meth : Method} {c : Code} {T : State} {H : Heap} {locs : List Loc} {cells slots : Nat}
theorem vx_callVX (X : Stand p l e R s m args below meth c T locs cells slots) (hexec : p.tables.exec = Jvm.exec) {own C : String} {index : Nat} {y : MethodName} {bytes : ByteArray} {maxL : Nat} {ret : Option FieldType} {hh : List (Nat × Nat × Nat × Nat)}
    (hown : s.vm.findClass own = some m.cls) (hlink : (Cond.methodLink own index y).before args s = true) (hinst : (Cond.instanceMethod y).before args s = true) (hsel : (Cond.selects C y y).before args s = true)
    (hcode : (Cond.codeWith y bytes maxL ret hh).before args s = true) (hy : y.cls ≠ "java/lang/invoke/MethodHandle" ∧ y.cls ≠ "java/lang/invoke/VarHandle")
    {W9 : Nat} {Pre : Pt → Array Value → Prop} {Post : Pt → Array Value → Option Value → Pt → Prop} {PostX : Pt → Array Value → Addr → Pt → Prop} (hK : vx_Back l R p e below s args y 3 W9 Pre Post PostX)
    {b : Addr} {cellB : Cell} (hcell : T.heap[b]? = some cellB) (hobj : cellB.vm.isStatics = false) (hcls : s.vm.findClass C = some cellB.cls)
    {g : JFrame} (hg : g.method = m) (hsize : g.locals.size = c.maxLocals) {argsL rest : List Value} (hlen : ∀ sig, parseMethodDescriptor y.desc = some sig → argsL.length = sig.parameters.length)
    (hstack : g.stack = argsL.reverse ++ .ref b :: rest) (hW : 2 * g.monitorRoom + (rest.map fun v => v.category).sum ≤ W9) (hdg : decode c.code g.pc = .ok (.invokevirtual index, 3))
    (hpre : ∀ vm₁, s.WarmedH vm₁ → Pre ⟨T.setVm vm₁, locs, cells, slots⟩ (Value.ref b :: argsL).toArray) :
    (∃ (v : Option Value) (vm₁ : Vm) (B : Pt), s.WarmedH vm₁ ∧ Stand p l e R s m args below meth c B.U B.locs B.cells B.slots ∧ Post ⟨T.setVm vm₁, locs, cells, slots⟩ (Value.ref b :: argsL).toArray v B ∧
      ∀ target, Steps p.tables e below (B.U.setTop { g with pc := g.pc + 3, stack := v.toList ++ rest }) target → Steps p.tables e below (T.setTop g) target) ∨
    (∃ (q : Addr) (vm₁ : Vm) (B : Pt), s.WarmedH vm₁ ∧ Stand p l e R s m args below meth c B.U B.locs B.cells B.slots ∧ PostX ⟨T.setVm vm₁, locs, cells, slots⟩ (Value.ref b :: argsL).toArray q B ∧
      Steps p.tables e below (T.setTop g) ((B.U.setTop { g with stack := rest }).pushFrame (.throwing q))) := by
  obtain ⟨mk, methM, hnamed, hmethM, hstM, habM⟩ := Cond.instanceMethod_spec hinst
  obtain ⟨m8, methM', cM, hn8, hmethM', -, -, -, -, -, -, hsigM⟩ := Cond.codeWith_spec hcode
  cases Option.some.inj (hn8.symm.trans hnamed)
  cases hmethM.symm.trans hmethM'
  obtain ⟨c2, r2, m2, q1, q2, q3, q4, kP, hkP, hkPi⟩ := Cond.selects_spec hsel
  cases hcls.symm.trans q1
  cases (State.methodFound?_of_named hnamed hy).symm.trans q2
  cases hnamed.symm.trans q3
  have hselP : selectMethod e.platform s.vm cellB.cls mk = .method mk := by rw [Launch.admits_selectMethod X.admits]; exact q4
  obtain ⟨vm₁, X₁, hstep₁⟩ := X.invokevirtual hexec hown hlink hnamed hmethM hstM hkP hkPi hy (a := b) (cell := cellB) hcell
    (fun z h => by rw [h] at hobj; cases hobj) hselP hmethM habM hkP hkPi (g := g) hg (argsL := argsL) (rest := rest) (hlen _ hsigM) hstack hdg
  rcases hK m meth c ⟨T.setVm vm₁, locs, cells, slots⟩ { g with stack := rest } (.invokevirtual index) mk (Value.ref b :: argsL).toArray X₁ hg hsize hdg hW (X₁.named hnamed) (hpre vm₁ X₁.warmed) with ⟨v, B, X', hpost, hsteps⟩ | ⟨q, B, X', hpost, hsteps⟩
  · exact Or.inl ⟨v, vm₁, B, X₁.warmed, X', hpost, fun target h => hstep₁ _ fun acts => by rw [doInvoke_state]; exact hsteps.trans h⟩
  · exact Or.inr ⟨q, vm₁, B, X₁.warmed, X', hpost, hstep₁ _ fun acts => by rw [doInvoke_state]; exact hsteps⟩
theorem vx_callSX (X : Stand p l e R s m args below meth c T locs cells slots) (hexec : p.tables.exec = Jvm.exec) {own : String} {index : Nat} {y : MethodName} {bytes : ByteArray} {maxL : Nat} {ret : Option FieldType} {hh : List (Nat × Nat × Nat × Nat)}
    (hown : s.vm.findClass own = some m.cls) (hlink : (Cond.methodLink own index y).before args s = true) (hstat : (Cond.static y).before args s = true) (hinit : (Cond.initialized y.cls).before args s = true)
    (hcode : (Cond.codeWith y bytes maxL ret hh).before args s = true) (hy : y.cls ≠ "java/lang/invoke/MethodHandle" ∧ y.cls ≠ "java/lang/invoke/VarHandle")
    {W9 : Nat} {Pre : Pt → Array Value → Prop} {Post : Pt → Array Value → Option Value → Pt → Prop} {PostX : Pt → Array Value → Addr → Pt → Prop} (hK : vx_Back l R p e below s args y 3 W9 Pre Post PostX)
    {g : JFrame} (hg : g.method = m) (hsize : g.locals.size = c.maxLocals) {argsL rest : List Value} (hlen : ∀ sig, parseMethodDescriptor y.desc = some sig → argsL.length = sig.parameters.length)
    (hstack : g.stack = argsL.reverse ++ rest) (hW : 2 * g.monitorRoom + (rest.map fun v => v.category).sum ≤ W9) (hdg : decode c.code g.pc = .ok (.invokestatic index, 3))
    (hpre : ∀ vm₁, s.WarmedH vm₁ → Pre ⟨T.setVm vm₁, locs, cells, slots⟩ argsL.toArray) :
    (∃ (v : Option Value) (vm₁ : Vm) (B : Pt), s.WarmedH vm₁ ∧ Stand p l e R s m args below meth c B.U B.locs B.cells B.slots ∧ Post ⟨T.setVm vm₁, locs, cells, slots⟩ argsL.toArray v B ∧
      ∀ target, Steps p.tables e below (B.U.setTop { g with pc := g.pc + 3, stack := v.toList ++ rest }) target → Steps p.tables e below (T.setTop g) target) ∨
    (∃ (q : Addr) (vm₁ : Vm) (B : Pt), s.WarmedH vm₁ ∧ Stand p l e R s m args below meth c B.U B.locs B.cells B.slots ∧ PostX ⟨T.setVm vm₁, locs, cells, slots⟩ argsL.toArray q B ∧
      Steps p.tables e below (T.setTop g) ((B.U.setTop { g with stack := rest }).pushFrame (.throwing q))) := by
  obtain ⟨mk, methM, cM, hnamed, hmethM, -, -, -, -, -, -, hsigM⟩ := Cond.codeWith_spec hcode
  have hstatic : methM.isStatic = true := Cond.static_spec hnamed hmethM hstat
  obtain ⟨kP, hkP, -⟩ := className_of_methodNamed hnamed
  have hinitP : kP.init = .initialized := Cond.initialized_spec (findClass_of_methodNamed hnamed) hkP hinit
  obtain ⟨vm₁, X₁, hstep₁⟩ := X.invokestatic hexec hown hlink hnamed hmethM hstatic hkP hinitP hy (g := g) hg (argsL := argsL) (rest := rest) (hlen _ hsigM) hstack hdg
  rcases hK m meth c ⟨T.setVm vm₁, locs, cells, slots⟩ { g with stack := rest } (.invokestatic index) mk argsL.toArray X₁ hg hsize hdg hW (X₁.named hnamed) (hpre vm₁ X₁.warmed) with ⟨v, B, X', hpost, hsteps⟩ | ⟨q, B, X', hpost, hsteps⟩
  · exact Or.inl ⟨v, vm₁, B, X₁.warmed, X', hpost, fun target h => hstep₁ _ fun acts => by rw [doInvoke_state]; exact hsteps.trans h⟩
  · exact Or.inr ⟨q, vm₁, B, X₁.warmed, X', hpost, hstep₁ _ fun acts => by rw [doInvoke_state]; exact hsteps⟩
theorem vx_callVW (X : Stand p l e R s m args below meth c T locs cells slots) (hexec : p.tables.exec = Jvm.exec) {own C : String} {index : Nat} {y : MethodName} {bytes : ByteArray} {maxL : Nat} {ret : Option FieldType} {hh : List (Nat × Nat × Nat × Nat)}
    (hown : s.vm.findClass own = some m.cls) (hlink : (Cond.methodLink own index y).before args s = true) (hinst : (Cond.instanceMethod y).before args s = true) (hsel : (Cond.selects C y y).before args s = true)
    (hcode : (Cond.codeWith y bytes maxL ret hh).before args s = true) (hy : y.cls ≠ "java/lang/invoke/MethodHandle" ∧ y.cls ≠ "java/lang/invoke/VarHandle")
    {W9 : Nat} {Pre : Pt → Array Value → Prop} {Post : Pt → Array Value → Option Value → Pt → Prop} (hK : Back l R p e below s args y 3 W9 Pre Post)
    {b : Addr} {cellB : Cell} (hcell : T.heap[b]? = some cellB) (hobj : cellB.vm.isStatics = false) (hcls : s.vm.findClass C = some cellB.cls)
    {g : JFrame} (hg : g.method = m) (hsize : g.locals.size = c.maxLocals) {argsL rest : List Value} (hlen : ∀ sig, parseMethodDescriptor y.desc = some sig → argsL.length = sig.parameters.length)
    (hstack : g.stack = argsL.reverse ++ .ref b :: rest) (hW : 2 * g.monitorRoom + (rest.map fun v => v.category).sum ≤ W9) (hdg : decode c.code g.pc = .ok (.invokevirtual index, 3))
    (hpre : ∀ vm₁, s.WarmedH vm₁ → Pre ⟨T.setVm vm₁, locs, cells, slots⟩ (Value.ref b :: argsL).toArray) :
    ∃ (v : Option Value) (vm₁ : Vm) (B : Pt), s.WarmedH vm₁ ∧ Stand p l e R s m args below meth c B.U B.locs B.cells B.slots ∧ Post ⟨T.setVm vm₁, locs, cells, slots⟩ (Value.ref b :: argsL).toArray v B ∧
      ∀ target, Steps p.tables e below (B.U.setTop { g with pc := g.pc + 3, stack := v.toList ++ rest }) target → Steps p.tables e below (T.setTop g) target := by
  obtain ⟨mk, methM, hnamed, hmethM, hstM, habM⟩ := Cond.instanceMethod_spec hinst
  obtain ⟨m8, methM', cM, hn8, hmethM', -, -, -, -, -, -, hsigM⟩ := Cond.codeWith_spec hcode
  cases Option.some.inj (hn8.symm.trans hnamed)
  cases hmethM.symm.trans hmethM'
  obtain ⟨c2, r2, m2, q1, q2, q3, q4, kP, hkP, hkPi⟩ := Cond.selects_spec hsel
  cases hcls.symm.trans q1
  cases (State.methodFound?_of_named hnamed hy).symm.trans q2
  cases hnamed.symm.trans q3
  have hselP : selectMethod e.platform s.vm cellB.cls mk = .method mk := by rw [Launch.admits_selectMethod X.admits]; exact q4
  obtain ⟨vm₁, X₁, hstep₁⟩ := X.invokevirtual hexec hown hlink hnamed hmethM hstM hkP hkPi hy (a := b) (cell := cellB) hcell
    (fun z h => by rw [h] at hobj; cases hobj) hselP hmethM habM hkP hkPi (g := g) hg (argsL := argsL) (rest := rest) (hlen _ hsigM) hstack hdg
  obtain ⟨v, B, X', hpost, hsteps⟩ := hK m meth c ⟨T.setVm vm₁, locs, cells, slots⟩ { g with stack := rest } (.invokevirtual index) mk (Value.ref b :: argsL).toArray X₁ hg hsize hdg hW (X₁.named hnamed) (hpre vm₁ X₁.warmed)
  exact ⟨v, vm₁, B, X₁.warmed, X', hpost, fun target h => hstep₁ _ fun acts => by rw [doInvoke_state]; exact hsteps.trans h⟩
abbrev vx_CVW (R : Room) (s : State) (args : Array Value) (own C : String) (index : Nat) (y : MethodName) (bytes : ByteArray) (maxL : Nat) (ret : Option FieldType) (hh : List (Nat × Nat × Nat × Nat)) (ws : List Cond) (rm : Room) (mc ms n : Nat) : Prop :=
  (rm.cells = mc ∧ rm.slots = ms ∧ rm.frames + 1 ≤ R.frames ∧ 8 + (maxL + 11) + rm.locals ≤ R.locals ∧ (∀ w ∈ ws, ∀ (a' : Array Value) (U : State), s.WarmedH U.vm → w.before a' U = true) ∧ Cond.codeWith y bytes maxL ret hh ∈ ws) ∧
  (Cond.codeWith y bytes maxL ret hh).before args s = true ∧ (Cond.initialized y.cls).before args s = true ∧ (y.cls ≠ "java/lang/invoke/MethodHandle" ∧ y.cls ≠ "java/lang/invoke/VarHandle") ∧
  (∀ sig, parseMethodDescriptor y.desc = some sig → n = sig.parameters.length) ∧ (Cond.methodLink own index y).before args s = true ∧ (Cond.instanceMethod y).before args s = true ∧ (Cond.selects C y y).before args s = true
theorem vx_cwVW {own C : String} {index maxL mc ms : Nat} {y : MethodName} {bytes : ByteArray} {ret : Option FieldType} {hh : List (Nat × Nat × Nat × Nat)} {Ts ws ws' : List Cond} {rm : Room} (n : Nat) (ht : ∀ w ∈ Ts, w.before args s = true) (hT : GoodIn Ts (wsV own index C y ws)) (hw : ws = Cond.codeWith y bytes maxL ret hh :: ws') (hrc : rm.cells = mc) (hrs : rm.slots = ms)
    (hd : y.cls = C ∧ y.cls ≠ "java/lang/invoke/MethodHandle" ∧ y.cls ≠ "java/lang/invoke/VarHandle" ∧ (parseMethodDescriptor y.desc).map (fun d => d.parameters.length) = some n) (hR : rm.frames + 1 ≤ R.frames ∧ 8 + (maxL + 11) + rm.locals ≤ R.locals) :
    vx_CVW R s args own C index y bytes maxL ret hh ws rm mc ms n := by
  obtain ⟨hC, hd⟩ := hd
  subst hC
  have ok : ∀ w ∈ wsV own index y.cls y ws, w.before args s = true := fun w h => ht w (hT w h).1
  have hG : GoodIn Ts ws := fun w h => hT w (by unfold wsV; exact List.mem_append_right _ h)
  have hc : Cond.codeWith y bytes maxL ret hh ∈ ws := by rw [hw]; exact List.mem_cons_self
  refine ⟨⟨hrc, hrs, hR.1, hR.2, pay_in ht hG, hc⟩, ht _ (hG _ hc).1, ok _ (by simp [wsV]), ⟨hd.1, hd.2.1⟩, fun sig h => ?_, ok _ (by simp [wsV]), ok _ (by simp [wsV]), ok _ (by simp [wsV])⟩
  have h2 := hd.2.2
  rw [h] at h2
  exact (Option.some.inj h2).symm
theorem vx_runVW {y : MethodName} {bytes cc : ByteArray} {maxL nL mc ms n index : Nat} {ret : Option FieldType} {hh : List (Nat × Nat × Nat × Nat)} {ws : List Cond} {rm : Room} {Pc : Array Value → State → Prop} {Qc : Array Value → State → Outcome → State → Prop} {free : Addr → Prop} {Ts : List Cond} {own C : String} {b : Addr} {As rest : List Value} {g : JFrame}
    (S : CallFix p m c cc nL s args Ts own) (hM : Met l y ws rm Pc Qc mc ms free) (cw : vx_CVW R s args own C index y bytes maxL ret hh ws rm mc ms n) (hp : PreV s H C b Pc As)
    (hg : g.method = m) (hn : As.length = n) (hsize : g.locals.size = nL) (hstack : g.stack = As.reverse ++ .ref b :: rest) (hW : 2 * g.monitorRoom + (rest.map fun v => v.category).sum ≤ 8) (hdg : decode cc g.pc = .ok (.invokevirtual index, 3)) (hf : cells + mc ≤ R.cells ∧ slots + ms ≤ R.slots) :
    va_Run p l e R s m args below meth c H locs cells slots mc ms g rest (Qc (Value.ref b :: As).toArray) free := by
  obtain ⟨⟨hrc, hrs, hfr, hlo, hws, hcw⟩, hcode, hini, hy, hlen, hl, hin, hse⟩ := cw
  have hK : Back l R p e below s args y 3 8 (PreOf R mc ms Pc) (PostOf Qc mc ms free) := va_backW (hh := hh) (bytes := bytes) (maxL := maxL) (ret := ret) hM hp.1 hrc hrs hfr hlo hws hcw (fun a' U hW => word_at hW (Or.inl (by first | rfl | simp [Cond.onTables, Cond.keeps, Cond.steady])) hini)
  obtain ⟨hx, hb, hml, ho, -⟩ := S
  obtain ⟨-, ⟨cellB, hcB, hoB, hclB⟩, hPc⟩ := hp
  intro T hT X
  obtain ⟨v, vm₁, ⟨U', l2, c2, s2⟩, hW₁, X', ⟨g', mk, t, L, e1, e2, hq, h1, hL, h2, h3⟩, st⟩ := vx_callVW X hx (C := C) (hh := hh) (bytes := bytes) (maxL := maxL) (ret := ret) ho hl hin hse hcode hy hK (by rw [hT]; exact hcB) hoB hclB hg (hsize.trans hml.symm) (argsL := As) (rest := rest) (fun sig h => hn.trans (hlen sig h)) hstack hW (by rw [hb]; exact hdg)
    (fun vm₁ hW₁ => ⟨hf.1, hf.2, hPc (T.setVm vm₁) hT hW₁⟩)
  dsimp only [Pt.U, Pt.locs, Pt.cells, Pt.slots] at X' e1 e2 h1 h2 h3 st
  subst h1; subst h2; subst h3
  exact ⟨v, (T.setVm vm₁).calling g' mk (Value.ref b :: As).toArray, t, U', L, hT, X', hL, e1, e2, hq, st⟩
section
variable {y : MethodName} {bytes cc : ByteArray} {maxL nL mc ms n index : Nat} {ret : Option FieldType} {ws : List Cond} {rm : Room} {Pc : Array Value → State → Prop} {Qc : Array Value → State → Outcome → State → Prop} {XC : String → State → State → Prop} {free : Addr → Prop} {Ts : List Cond} {own C : String} {b : Addr} {As rest : List Value} {g : JFrame}
theorem vx_runVX {hh : List (Nat × Nat × Nat × Nat)} (S : CallFix p m c cc nL s args Ts own) (hM : vx_Met l y ws rm Pc Qc XC mc ms free) (cw : vx_CVW R s args own C index y bytes maxL ret hh ws rm mc ms n) (hp : PreV s H C b Pc As)
    (hg : g.method = m) (hn : As.length = n) (hsize : g.locals.size = nL) (hstack : g.stack = As.reverse ++ .ref b :: rest) (hW : 2 * g.monitorRoom + (rest.map fun v => v.category).sum ≤ 8) (hdg : decode cc g.pc = .ok (.invokevirtual index, 3)) (hf : cells + mc ≤ R.cells ∧ slots + ms ≤ R.slots) :
    vx_Run p l e R s m args below meth c H locs cells slots mc ms g rest (Qc (Value.ref b :: As).toArray) XC free := by
  obtain ⟨⟨hrc, hrs, hfr, hlo, hws, hcw⟩, hcode, hini, hy, hlen, hl, hin, hse⟩ := cw
  have hK : vx_Back l R p e below s args y 3 8 (PreOf R mc ms Pc) (PostOf Qc mc ms free) (vx_Post XC mc ms free) := vx_backW (hh := hh) (bytes := bytes) (maxL := maxL) (ret := ret) hM hp.1 hrc hrs hfr hlo hws hcw (fun a' U hW => word_at hW (Or.inl (by first | rfl | simp [Cond.onTables, Cond.keeps, Cond.steady])) hini)
  obtain ⟨hx, hb, hml, ho, -⟩ := S
  obtain ⟨-, ⟨cellB, hcB, hoB, hclB⟩, hPc⟩ := hp
  intro T hT X
  rcases vx_callVX X hx (C := C) (hh := hh) (bytes := bytes) (maxL := maxL) (ret := ret) ho hl hin hse hcode hy hK (by rw [hT]; exact hcB) hoB hclB hg (hsize.trans hml.symm) (argsL := As) (rest := rest) (fun sig h => hn.trans (hlen sig h)) hstack hW (by rw [hb]; exact hdg)
    (fun vm₁ hW₁ => ⟨hf.1, hf.2, hPc (T.setVm vm₁) hT hW₁⟩) with ⟨v, vm₁, ⟨U', l2, c2, s2⟩, hW₁, X', ⟨g', mk, t, L, e1, e2, hq, h1, hL, h2, h3⟩, st⟩ | ⟨q, vm₁, ⟨U', l2, c2, s2⟩, hW₁, X', ⟨g', mk, t, L, E, ce, e1, e2, hq, hce, hcv, hcl, h1, hL, h2, h3⟩, st⟩
  · dsimp only [Pt.U, Pt.locs, Pt.cells, Pt.slots] at X' e1 e2 h1 h2 h3 st
    subst h1; subst h2; subst h3
    exact Or.inl ⟨v, (T.setVm vm₁).calling g' mk (Value.ref b :: As).toArray, t, U', L, hT, X', hL, e1, e2, hq, st⟩
  · dsimp only [Pt.U, Pt.locs, Pt.cells, Pt.slots] at X' e1 e2 h1 h2 h3 st hcl
    subst h1; subst h2; subst h3
    exact Or.inr ⟨q, (T.setVm vm₁).calling g' mk (Value.ref b :: As).toArray, t, U', L, E, ce, hT, X', hL, e1, e2, hq, hce, hcv, vx_cls hW₁ hcl, st⟩
theorem vx_runSX {hh : List (Nat × Nat × Nat × Nat)} (S : CallFix p m c cc nL s args Ts own) (hM : vx_Met l y ws rm Pc Qc XC mc ms free) (cw : vx_CSW R s args own index y bytes maxL ret hh ws rm mc ms n) (hp : PreS s H Pc As)
    (hg : g.method = m) (hn : As.length = n) (hsize : g.locals.size = nL) (hstack : g.stack = As.reverse ++ rest) (hW : 2 * g.monitorRoom + (rest.map fun v => v.category).sum ≤ 8) (hdg : decode cc g.pc = .ok (.invokestatic index, 3)) (hf : cells + mc ≤ R.cells ∧ slots + ms ≤ R.slots) :
    vx_Run p l e R s m args below meth c H locs cells slots mc ms g rest (Qc As.toArray) XC free := by
  obtain ⟨⟨hrc, hrs, hfr, hlo, hws, hcw⟩, hcode, hini, hy, hlen, hl, hstt⟩ := cw
  have hK : vx_Back l R p e below s args y 3 8 (PreOf R mc ms Pc) (PostOf Qc mc ms free) (vx_Post XC mc ms free) := vx_backW (hh := hh) (bytes := bytes) (maxL := maxL) (ret := ret) hM hp.1 hrc hrs hfr hlo hws hcw (fun a' U hW => word_at hW (Or.inl (by first | rfl | simp [Cond.onTables, Cond.keeps, Cond.steady])) hini)
  obtain ⟨hx, hb, hml, ho, -⟩ := S
  intro T hT X
  rcases vx_callSX X hx (hh := hh) (bytes := bytes) (maxL := maxL) (ret := ret) ho hl hstt hini hcode hy hK hg (hsize.trans hml.symm) (argsL := As) (rest := rest) (fun sig h => hn.trans (hlen sig h)) hstack hW (by rw [hb]; exact hdg)
    (fun vm₁ hW₁ => ⟨hf.1, hf.2, hp.2 (T.setVm vm₁) hT hW₁⟩) with ⟨v, vm₁, ⟨U', l2, c2, s2⟩, hW₁, X', ⟨g', mk, t, L, e1, e2, hq, h1, hL, h2, h3⟩, st⟩ | ⟨q, vm₁, ⟨U', l2, c2, s2⟩, hW₁, X', ⟨g', mk, t, L, E, ce, e1, e2, hq, hce, hcv, hcl, h1, hL, h2, h3⟩, st⟩
  · dsimp only [Pt.U, Pt.locs, Pt.cells, Pt.slots] at X' e1 e2 h1 h2 h3 st
    subst h1; subst h2; subst h3
    exact Or.inl ⟨v, (T.setVm vm₁).calling g' mk As.toArray, t, U', L, hT, X', hL, e1, e2, hq, st⟩
  · dsimp only [Pt.U, Pt.locs, Pt.cells, Pt.slots] at X' e1 e2 h1 h2 h3 st hcl
    subst h1; subst h2; subst h3
    exact Or.inr ⟨q, (T.setVm vm₁).calling g' mk As.toArray, t, U', L, E, ce, hT, X', hL, e1, e2, hq, hce, hcv, vx_cls hW₁ hcl, st⟩
end
end VXH
theorem vx_ofWH {l : Launch} {y : MethodName} {ws ws' : List Cond} {rm : Room} {Pc : Array Value → State → Prop} {Qc : Array Value → State → Outcome → State → Prop} {XC : String → State → State → Prop} {mc ms : Nat} {free : Addr → Prop} {cc : ByteArray} {maxL : Nat} {ret : Option FieldType} {hh : List (Nat × Nat × Nat × Nat)}
    (hy : plainName y.cls = true) (hw : ws = Cond.codeWith y cc maxL ret hh :: ws')
    (body : ∀ p e s m args below meth c s₁, BodyLoose p l y (headSpec ws rm) cc maxL ret e s m args below meth c s₁ → c.maxLocals = maxL → Pc args s →
      W p l e (headSpec ws rm).room s m args below meth c s.heap [] 0 0 (vx_MQ below Qc XC args s mc ms free) (entryFrame m args maxL)) : vx_Met l y ws rm Pc Qc XC mc ms free := by
  refine MetFree.of_bodyS (code := cc) (maxLocals := maxL) (ret := ret) hy ?_ ?_
  · intro args s m h hn
    obtain ⟨m9, meth, c, hn9, h1, h2, h3, h4, -, h5, h6, -⟩ := Cond.codeWith_spec (atoms_spec (ws := ws) h _ (by rw [hw]; exact List.mem_cons_self))
    cases hn.symm.trans hn9
    exact ⟨meth, c, h1, h2, h3, h4, h5, h6⟩
  · intro p e s m args below meth c s₁ B hml hP _
    have hh0 : s₁.heap = s.heap := by rw [B.state]; rfl
    obtain ⟨t, a1, o, b1, b2, b3⟩ := body p e s m args below meth c s₁ B hml hP s₁ hh0 (Stand.of_body B)
    exact ⟨t, o, a1, b1, b2, b3⟩
/-! ===== END ===== -/
end
section
def RX0 : String := "MembranePlant$Meters"
def TX0 : u_T := fun k => match k with
  | 0 => ("MembranePlant$Meters", "shorts", "[I", true)
  | 1 => ("MembranePlant$Meters", "feed", "J", false)
  | 2 => ("MembranePlant$Meters", "product", "J", false)
  | 3 => ("MembranePlant$Meters", "brine", "J", false)
  | 4 => ("MembranePlant$Meters", "spilled", "J", false)
  | 5 => ("MembranePlant$Meters", "cost", "J", false)
  | 6 => ("MembranePlant$Meters", "served", "J", false)
  | 7 => ("MembranePlant$Meters", "demanded", "J", false)
  | _ => ("MembranePlant$Meters", "cleaned", "J", false)
def tyX0 : Nat → FieldType := fun k => match k with
  | 0 => .array .int
  | 1 => .long
  | 2 => .long
  | 3 => .long
  | 4 => .long
  | 5 => .long
  | 6 => .long
  | 7 => .long
  | _ => .long
abbrev wsX00 : List Cond := u_ws RX0 TX0 9
theorem nmX0 : ∀ a, a < 9 → ∀ b, b < 9 → a ≠ b → (TX0 a).2.1 ≠ (TX0 b).2.1 := by decide +kernel
theorem tyX0_ok : ∀ k, k < 9 → parseFieldDescriptor (TX0 k).2.2.1 = some (tyX0 k) := by decide +kernel
abbrev cX0_init : ByteArray := prog_2_method_1_code
def yX0_init : MethodName := ⟨RX0, "<init>", "()V"⟩
abbrev cX0_add : ByteArray := prog_2_method_2_code
def yX0_add : MethodName := ⟨RX0, "add", "(LMembranePlant$State;)V"⟩
def RX1 : String := "MembranePlant$Orders"
def TX1 : u_T := fun k => match k with
  | 0 => ("MembranePlant$Orders", "halfHours", "[I", true)
  | 1 => ("MembranePlant$Orders", "tells", "[I", true)
  | _ => ("MembranePlant$Orders", "count", "I", false)
def tyX1 : Nat → FieldType := fun k => match k with
  | 0 => .array .int
  | 1 => .array .int
  | _ => .int
abbrev wsX10 : List Cond := u_ws RX1 TX1 3
theorem nmX1 : ∀ a, a < 3 → ∀ b, b < 3 → a ≠ b → (TX1 a).2.1 ≠ (TX1 b).2.1 := by decide +kernel
theorem tyX1_ok : ∀ k, k < 3 → parseFieldDescriptor (TX1 k).2.2.1 = some (tyX1 k) := by decide +kernel
abbrev cX1_init : ByteArray := prog_3_method_1_code
def yX1_init : MethodName := ⟨RX1, "<init>", "()V"⟩
abbrev cX1_told : ByteArray := prog_3_method_2_code
def yX1_told : MethodName := ⟨RX1, "told", "(I)I"⟩
abbrev cX1_put : ByteArray := prog_3_method_3_code
def yX1_put : MethodName := ⟨RX1, "put", "(II)V"⟩
abbrev cX1_forget : ByteArray := prog_3_method_4_code
def yX1_forget : MethodName := ⟨RX1, "forget", "(I)V"⟩
abbrev cX1_find : ByteArray := prog_3_method_5_code
def yX1_find : MethodName := ⟨RX1, "find", "(I)I"⟩
def RX2 : String := "MembranePlant$Planner"
def TX2 : u_T := fun k => match k with
  | 0 => ("MembranePlant$Planner", "settings", "LMembranePlant$Settings;", true)
  | 1 => ("MembranePlant$Planner", "orders", "LMembranePlant$Orders;", true)
  | 2 => ("MembranePlant$Planner", "rows", "[LMembranePlant$State;", true)
  | 3 => ("MembranePlant$Planner", "told", "[I", true)
  | 4 => ("MembranePlant$Planner", "slots", "[I", true)
  | 5 => ("MembranePlant$Planner", "length", "I", false)
  | 6 => ("MembranePlant$Planner", "best", "I", false)
  | _ => ("MembranePlant$Planner", "leastCost", "I", false)
def tyX2 : Nat → FieldType := fun k => match k with
  | 0 => .object "MembranePlant$Settings"
  | 1 => .object "MembranePlant$Orders"
  | 2 => .array (.object "MembranePlant$State")
  | 3 => .array .int
  | 4 => .array .int
  | 5 => .int
  | 6 => .int
  | _ => .int
abbrev wsX20 : List Cond := u_ws RX2 TX2 8
theorem nmX2 : ∀ a, a < 8 → ∀ b, b < 8 → a ≠ b → (TX2 a).2.1 ≠ (TX2 b).2.1 := by decide +kernel
theorem tyX2_ok : ∀ k, k < 8 → parseFieldDescriptor (TX2 k).2.2.1 = some (tyX2 k) := by decide +kernel
abbrev cX2_init : ByteArray := prog_4_method_1_code
def yX2_init : MethodName := ⟨RX2, "<init>", "(LMembranePlant$Settings;LMembranePlant$Orders;)V"⟩
abbrev cX2_begin : ByteArray := prog_4_method_2_code
def yX2_begin : MethodName := ⟨RX2, "begin", "(LMembranePlant$State;II)V"⟩
abbrev cX2_findBest : ByteArray := prog_4_method_3_code
def yX2_findBest : MethodName := ⟨RX2, "findBest", "(LMembranePlant$State;II)V"⟩
abbrev cX2_toldBy : ByteArray := prog_4_method_4_code
def yX2_toldBy : MethodName := ⟨RX2, "toldBy", "(II)I"⟩
abbrev cX2_costOf : ByteArray := prog_4_method_5_code
def yX2_costOf : MethodName := ⟨RX2, "costOf", "(I)I"⟩
abbrev cX2_search : ByteArray := prog_4_method_6_code
def yX2_search : MethodName := ⟨RX2, "search", "(LMembranePlant$Planner;III)V"⟩
abbrev cX2_isAsOrdered : ByteArray := prog_4_method_7_code
def yX2_isAsOrdered : MethodName := ⟨RX2, "isAsOrdered", "(II)Z"⟩
abbrev cX2_canPass : ByteArray := prog_4_method_8_code
def yX2_canPass : MethodName := ⟨RX2, "canPass", "(II)Z"⟩
def RX3 : String := "MembranePlant$Settings"
def TX3 : u_T := fun k => match k with
  | 0 => ("MembranePlant$Settings", "areas", "[I", true)
  | 1 => ("MembranePlant$Settings", "pressures", "[I", true)
  | 2 => ("MembranePlant$Settings", "capacities", "[I", true)
  | 3 => ("MembranePlant$Settings", "demands", "[[I", true)
  | 4 => ("MembranePlant$Settings", "prices", "[I", true)
  | 5 => ("MembranePlant$Settings", "trains", "I", false)
  | 6 => ("MembranePlant$Settings", "tanks", "I", false)
  | 7 => ("MembranePlant$Settings", "salinity", "I", false)
  | _ => ("MembranePlant$Settings", "recovery", "I", false)
def tyX3 : Nat → FieldType := fun k => match k with
  | 0 => .array .int
  | 1 => .array .int
  | 2 => .array .int
  | 3 => .array (.array .int)
  | 4 => .array .int
  | 5 => .int
  | 6 => .int
  | 7 => .int
  | _ => .int
abbrev wsX30 : List Cond := u_ws RX3 TX3 9
theorem nmX3 : ∀ a, a < 9 → ∀ b, b < 9 → a ≠ b → (TX3 a).2.1 ≠ (TX3 b).2.1 := by decide +kernel
theorem tyX3_ok : ∀ k, k < 9 → parseFieldDescriptor (TX3 k).2.2.1 = some (tyX3 k) := by decide +kernel
abbrev cX3_init : ByteArray := prog_5_method_1_code
def yX3_init : MethodName := ⟨RX3, "<init>", "()V"⟩
abbrev cX3_productAt : ByteArray := prog_5_method_2_code
def yX3_productAt : MethodName := ⟨RX3, "productAt", "(II)I"⟩
abbrev cX3_feedFor : ByteArray := prog_5_method_3_code
def yX3_feedFor : MethodName := ⟨RX3, "feedFor", "(I)I"⟩
abbrev cX3_energyFor : ByteArray := prog_5_method_4_code
def yX3_energyFor : MethodName := ⟨RX3, "energyFor", "(II)I"⟩
abbrev cX3_foulingStep : ByteArray := prog_5_method_5_code
def yX3_foulingStep : MethodName := ⟨RX3, "foulingStep", "(I)I"⟩
def RX4 : String := "MembranePlant$State"
def TX4 : u_T := fun k => match k with
  | 0 => ("MembranePlant$State", "fouling", "[I", true)
  | 1 => ("MembranePlant$State", "wear", "[I", true)
  | 2 => ("MembranePlant$State", "left", "[I", true)
  | 3 => ("MembranePlant$State", "levels", "[I", true)
  | 4 => ("MembranePlant$State", "missing", "[I", true)
  | 5 => ("MembranePlant$State", "product", "I", false)
  | 6 => ("MembranePlant$State", "feed", "I", false)
  | 7 => ("MembranePlant$State", "brine", "I", false)
  | 8 => ("MembranePlant$State", "cost", "I", false)
  | 9 => ("MembranePlant$State", "spilled", "I", false)
  | 10 => ("MembranePlant$State", "served", "I", false)
  | 11 => ("MembranePlant$State", "demanded", "I", false)
  | _ => ("MembranePlant$State", "lacking", "I", false)
def tyX4 : Nat → FieldType := fun k => match k with
  | 0 => .array .int
  | 1 => .array .int
  | 2 => .array .int
  | 3 => .array .int
  | 4 => .array .int
  | 5 => .int
  | 6 => .int
  | 7 => .int
  | 8 => .int
  | 9 => .int
  | 10 => .int
  | 11 => .int
  | _ => .int
abbrev wsX40 : List Cond := u_ws RX4 TX4 13
theorem nmX4 : ∀ a, a < 13 → ∀ b, b < 13 → a ≠ b → (TX4 a).2.1 ≠ (TX4 b).2.1 := by decide +kernel
theorem tyX4_ok : ∀ k, k < 13 → parseFieldDescriptor (TX4 k).2.2.1 = some (tyX4 k) := by decide +kernel
abbrev cX4_init : ByteArray := prog_6_method_1_code
def yX4_init : MethodName := ⟨RX4, "<init>", "()V"⟩
abbrev cX4_copy : ByteArray := prog_6_method_2_code
def yX4_copy : MethodName := ⟨RX4, "copy", "(LMembranePlant$State;)V"⟩
abbrev cX4_letPass : ByteArray := prog_6_method_3_code
def yX4_letPass : MethodName := ⟨RX4, "letPass", "(LMembranePlant$Settings;IZ)V"⟩
abbrev cX4_goOnCleaning : ByteArray := prog_6_method_4_code
def yX4_goOnCleaning : MethodName := ⟨RX4, "goOnCleaning", "(I)V"⟩
abbrev cX4_runTrain : ByteArray := prog_6_method_5_code
def yX4_runTrain : MethodName := ⟨RX4, "runTrain", "(LMembranePlant$Settings;I)I"⟩
abbrev cX4_pour : ByteArray := prog_6_method_6_code
def yX4_pour : MethodName := ⟨RX4, "pour", "(LMembranePlant$Settings;)V"⟩
abbrev cX4_serve : ByteArray := prog_6_method_7_code
def yX4_serve : MethodName := ⟨RX4, "serve", "(LMembranePlant$Settings;I)V"⟩
def RX5 : String := "MembranePlant"
def TX5 : u_T := fun k => match k with
  | 0 => ("MembranePlant", "settings", "LMembranePlant$Settings;", true)
  | 1 => ("MembranePlant", "state", "LMembranePlant$State;", true)
  | 2 => ("MembranePlant", "orders", "LMembranePlant$Orders;", true)
  | 3 => ("MembranePlant", "planner", "LMembranePlant$Planner;", true)
  | 4 => ("MembranePlant", "meters", "LMembranePlant$Meters;", true)
  | 5 => ("MembranePlant", "horizon", "I", false)
  | _ => ("MembranePlant", "present", "I", false)
def tyX5 : Nat → FieldType := fun k => match k with
  | 0 => .object "MembranePlant$Settings"
  | 1 => .object "MembranePlant$State"
  | 2 => .object "MembranePlant$Orders"
  | 3 => .object "MembranePlant$Planner"
  | 4 => .object "MembranePlant$Meters"
  | 5 => .int
  | _ => .int
abbrev wsX50 : List Cond := u_ws RX5 TX5 7
theorem nmX5 : ∀ a, a < 7 → ∀ b, b < 7 → a ≠ b → (TX5 a).2.1 ≠ (TX5 b).2.1 := by decide +kernel
theorem tyX5_ok : ∀ k, k < 7 → parseFieldDescriptor (TX5 k).2.2.1 = some (tyX5 k) := by decide +kernel
abbrev cX5_init : ByteArray := prog_1_method_1_code
def yX5_init : MethodName := ⟨RX5, "<init>", "()V"⟩
abbrev cX5_addTrain : ByteArray := prog_1_method_2_code
def yX5_addTrain : MethodName := ⟨RX5, "addTrain", "(I)I"⟩
abbrev cX5_setPressure : ByteArray := prog_1_method_3_code
def yX5_setPressure : MethodName := ⟨RX5, "setPressure", "(II)I"⟩
abbrev cX5_setSalinity : ByteArray := prog_1_method_4_code
def yX5_setSalinity : MethodName := ⟨RX5, "setSalinity", "(I)I"⟩
abbrev cX5_setRecovery : ByteArray := prog_1_method_5_code
def yX5_setRecovery : MethodName := ⟨RX5, "setRecovery", "(I)I"⟩
abbrev cX5_clean : ByteArray := prog_1_method_6_code
def yX5_clean : MethodName := ⟨RX5, "clean", "(I)I"⟩
abbrev cX5_fouling : ByteArray := prog_1_method_7_code
def yX5_fouling : MethodName := ⟨RX5, "fouling", "(I)I"⟩
abbrev cX5_wear : ByteArray := prog_1_method_8_code
def yX5_wear : MethodName := ⟨RX5, "wear", "(I)I"⟩
abbrev cX5_cleaningLeft : ByteArray := prog_1_method_9_code
def yX5_cleaningLeft : MethodName := ⟨RX5, "cleaningLeft", "(I)I"⟩
abbrev cX5_productOf : ByteArray := prog_1_method_10_code
def yX5_productOf : MethodName := ⟨RX5, "productOf", "(I)I"⟩
abbrev cX5_energyOf : ByteArray := prog_1_method_11_code
def yX5_energyOf : MethodName := ⟨RX5, "energyOf", "(I)I"⟩
abbrev cX5_readyTrains : ByteArray := prog_1_method_12_code
def yX5_readyTrains : MethodName := ⟨RX5, "readyTrains", "()I"⟩
abbrev cX5_addTank : ByteArray := prog_1_method_13_code
def yX5_addTank : MethodName := ⟨RX5, "addTank", "(I)I"⟩
abbrev cX5_setDemand : ByteArray := prog_1_method_14_code
def yX5_setDemand : MethodName := ⟨RX5, "setDemand", "(IIII)I"⟩
abbrev cX5_setPrice : ByteArray := prog_1_method_15_code
def yX5_setPrice : MethodName := ⟨RX5, "setPrice", "(III)I"⟩
abbrev cX5_demand : ByteArray := prog_1_method_16_code
def yX5_demand : MethodName := ⟨RX5, "demand", "(II)I"⟩
abbrev cX5_level : ByteArray := prog_1_method_17_code
def yX5_level : MethodName := ⟨RX5, "level", "(I)I"⟩
abbrev cX5_shortOf : ByteArray := prog_1_method_18_code
def yX5_shortOf : MethodName := ⟨RX5, "shortOf", "(I)I"⟩
abbrev cX5_pass : ByteArray := prog_1_method_19_code
def yX5_pass : MethodName := ⟨RX5, "pass", "(Z)I"⟩
abbrev cX5_run : ByteArray := prog_1_method_20_code
def yX5_run : MethodName := ⟨RX5, "run", "(I)I"⟩
abbrev cX5_setHorizon : ByteArray := prog_1_method_21_code
def yX5_setHorizon : MethodName := ⟨RX5, "setHorizon", "(I)I"⟩
abbrev cX5_order : ByteArray := prog_1_method_22_code
def yX5_order : MethodName := ⟨RX5, "order", "(IZ)I"⟩
abbrev cX5_takeBack : ByteArray := prog_1_method_23_code
def yX5_takeBack : MethodName := ⟨RX5, "takeBack", "(I)Z"⟩
abbrev cX5_halfHour : ByteArray := prog_1_method_24_code
def yX5_halfHour : MethodName := ⟨RX5, "halfHour", "()I"⟩
abbrev cX5_bestCost : ByteArray := prog_1_method_25_code
def yX5_bestCost : MethodName := ⟨RX5, "bestCost", "(I)I"⟩
abbrev cX5_bestCostByTrying : ByteArray := prog_1_method_26_code
def yX5_bestCostByTrying : MethodName := ⟨RX5, "bestCostByTrying", "(I)I"⟩
abbrev cX5_isOnInBest : ByteArray := prog_1_method_27_code
def yX5_isOnInBest : MethodName := ⟨RX5, "isOnInBest", "(II)Z"⟩
abbrev cX5_allowedSchedules : ByteArray := prog_1_method_28_code
def yX5_allowedSchedules : MethodName := ⟨RX5, "allowedSchedules", "(I)I"⟩
abbrev cX5_feed : ByteArray := prog_1_method_29_code
def yX5_feed : MethodName := ⟨RX5, "feed", "()J"⟩
abbrev cX5_product : ByteArray := prog_1_method_30_code
def yX5_product : MethodName := ⟨RX5, "product", "()J"⟩
abbrev cX5_brine : ByteArray := prog_1_method_31_code
def yX5_brine : MethodName := ⟨RX5, "brine", "()J"⟩
abbrev cX5_spilled : ByteArray := prog_1_method_32_code
def yX5_spilled : MethodName := ⟨RX5, "spilled", "()J"⟩
abbrev cX5_spilledByBalance : ByteArray := prog_1_method_33_code
def yX5_spilledByBalance : MethodName := ⟨RX5, "spilledByBalance", "()J"⟩
abbrev cX5_cost : ByteArray := prog_1_method_34_code
def yX5_cost : MethodName := ⟨RX5, "cost", "()J"⟩
abbrev cX5_isBalanced : ByteArray := prog_1_method_35_code
def yX5_isBalanced : MethodName := ⟨RX5, "isBalanced", "()Z"⟩
abbrev cX5_servedShare : ByteArray := prog_1_method_36_code
def yX5_servedShare : MethodName := ⟨RX5, "servedShare", "()F"⟩
abbrev cX5_meanCost : ByteArray := prog_1_method_37_code
def yX5_meanCost : MethodName := ⟨RX5, "meanCost", "()D"⟩
abbrev cX5_checkRange : ByteArray := prog_1_method_38_code
def yX5_checkRange : MethodName := ⟨RX5, "checkRange", "(III)V"⟩
abbrev cX5_checkSlots : ByteArray := prog_1_method_39_code
def yX5_checkSlots : MethodName := ⟨RX5, "checkSlots", "(II)V"⟩
abbrev cX5_checkAllowed : ByteArray := prog_1_method_40_code
def yX5_checkAllowed : MethodName := ⟨RX5, "checkAllowed", "(I)V"⟩
abbrev cX5_checkTrain : ByteArray := prog_1_method_41_code
def yX5_checkTrain : MethodName := ⟨RX5, "checkTrain", "(I)V"⟩
abbrev cX5_checkReady : ByteArray := prog_1_method_42_code
def yX5_checkReady : MethodName := ⟨RX5, "checkReady", "(I)V"⟩
abbrev cX5_checkTank : ByteArray := prog_1_method_43_code
def yX5_checkTank : MethodName := ⟨RX5, "checkTank", "(I)V"⟩
abbrev cX5_fillSlots : ByteArray := prog_1_method_44_code
def yX5_fillSlots : MethodName := ⟨RX5, "fillSlots", "([IIII)I"⟩
abbrev cX5_slotOf : ByteArray := prog_1_method_45_code
def yX5_slotOf : MethodName := ⟨RX5, "slotOf", "(I)I"⟩
abbrev cX5_passPresent : ByteArray := prog_1_method_46_code
def yX5_passPresent : MethodName := ⟨RX5, "passPresent", "(Z)V"⟩
def RX6 : String := "MembranePlantModel"
def TX6 : u_T := fun k => match k with
  | 0 => ("MembranePlantModel", "now", "[I", true)
  | 1 => ("MembranePlantModel", "laidBy", "[I", true)
  | 2 => ("MembranePlantModel", "areas", "[I", true)
  | 3 => ("MembranePlantModel", "pressures", "[I", true)
  | 4 => ("MembranePlantModel", "trains", "I", false)
  | 5 => ("MembranePlantModel", "capacities", "[I", true)
  | 6 => ("MembranePlantModel", "demands", "[I", true)
  | 7 => ("MembranePlantModel", "shorts", "[I", true)
  | 8 => ("MembranePlantModel", "tanks", "I", false)
  | 9 => ("MembranePlantModel", "prices", "[I", true)
  | 10 => ("MembranePlantModel", "salinity", "I", false)
  | 11 => ("MembranePlantModel", "recovery", "I", false)
  | 12 => ("MembranePlantModel", "halfHour", "I", false)
  | 13 => ("MembranePlantModel", "horizon", "I", false)
  | 14 => ("MembranePlantModel", "ordered", "[I", true)
  | 15 => ("MembranePlantModel", "orderedOn", "[Z", true)
  | 16 => ("MembranePlantModel", "orders", "I", false)
  | 17 => ("MembranePlantModel", "gaveProduct", "I", false)
  | 18 => ("MembranePlantModel", "gaveFeed", "I", false)
  | 19 => ("MembranePlantModel", "gaveEnergy", "I", false)
  | 20 => ("MembranePlantModel", "gaveSpilled", "I", false)
  | 21 => ("MembranePlantModel", "gaveServed", "I", false)
  | 22 => ("MembranePlantModel", "gaveShort", "[I", true)
  | 23 => ("MembranePlantModel", "feed", "J", false)
  | 24 => ("MembranePlantModel", "product", "J", false)
  | 25 => ("MembranePlantModel", "spilled", "J", false)
  | 26 => ("MembranePlantModel", "served", "J", false)
  | 27 => ("MembranePlantModel", "demanded", "J", false)
  | 28 => ("MembranePlantModel", "cost", "J", false)
  | 29 => ("MembranePlantModel", "best", "I", false)
  | 30 => ("MembranePlantModel", "bestCost", "I", false)
  | 31 => ("MembranePlantModel", "allowed", "I", false)
  | 32 => ("MembranePlantModel", "thrown", "I", false)
  | _ => ("MembranePlantModel", "tried", "I", false)
def tyX6 : Nat → FieldType := fun k => match k with
  | 0 => .array .int
  | 1 => .array .int
  | 2 => .array .int
  | 3 => .array .int
  | 4 => .int
  | 5 => .array .int
  | 6 => .array .int
  | 7 => .array .int
  | 8 => .int
  | 9 => .array .int
  | 10 => .int
  | 11 => .int
  | 12 => .int
  | 13 => .int
  | 14 => .array .int
  | 15 => .array .boolean
  | 16 => .int
  | 17 => .int
  | 18 => .int
  | 19 => .int
  | 20 => .int
  | 21 => .int
  | 22 => .array .int
  | 23 => .long
  | 24 => .long
  | 25 => .long
  | 26 => .long
  | 27 => .long
  | 28 => .long
  | 29 => .int
  | 30 => .int
  | 31 => .int
  | 32 => .int
  | _ => .int
abbrev wsX60 : List Cond := u_ws RX6 TX6 34
theorem nmX6 : ∀ a, a < 34 → ∀ b, b < 34 → a ≠ b → (TX6 a).2.1 ≠ (TX6 b).2.1 := by decide +kernel
theorem tyX6_ok : ∀ k, k < 34 → parseFieldDescriptor (TX6 k).2.2.1 = some (tyX6 k) := by decide +kernel
abbrev cX6_init : ByteArray := prog_8_method_1_code
def yX6_init : MethodName := ⟨RX6, "<init>", "()V"⟩
abbrev cX6_thrown : ByteArray := prog_8_method_2_code
def yX6_thrown : MethodName := ⟨RX6, "thrown", "()I"⟩
abbrev cX6_in : ByteArray := prog_8_method_3_code
def yX6_in : MethodName := ⟨RX6, "in", "(JJJ)Z"⟩
abbrev cX6_isTrain : ByteArray := prog_8_method_4_code
def yX6_isTrain : MethodName := ⟨RX6, "isTrain", "(I)Z"⟩
abbrev cX6_isTank : ByteArray := prog_8_method_5_code
def yX6_isTank : MethodName := ⟨RX6, "isTank", "(I)Z"⟩
abbrev cX6_of : ByteArray := prog_8_method_6_code
def yX6_of : MethodName := ⟨RX6, "of", "(II)I"⟩
abbrev cX6_addTrain : ByteArray := prog_8_method_7_code
def yX6_addTrain : MethodName := ⟨RX6, "addTrain", "(I)I"⟩
abbrev cX6_setPressure : ByteArray := prog_8_method_8_code
def yX6_setPressure : MethodName := ⟨RX6, "setPressure", "(II)I"⟩
abbrev cX6_setSalinity : ByteArray := prog_8_method_9_code
def yX6_setSalinity : MethodName := ⟨RX6, "setSalinity", "(I)I"⟩
abbrev cX6_setRecovery : ByteArray := prog_8_method_10_code
def yX6_setRecovery : MethodName := ⟨RX6, "setRecovery", "(I)I"⟩
abbrev cX6_clean : ByteArray := prog_8_method_11_code
def yX6_clean : MethodName := ⟨RX6, "clean", "(I)I"⟩
abbrev cX6_fouling : ByteArray := prog_8_method_12_code
def yX6_fouling : MethodName := ⟨RX6, "fouling", "(I)I"⟩
abbrev cX6_wear : ByteArray := prog_8_method_13_code
def yX6_wear : MethodName := ⟨RX6, "wear", "(I)I"⟩
abbrev cX6_cleaningLeft : ByteArray := prog_8_method_14_code
def yX6_cleaningLeft : MethodName := ⟨RX6, "cleaningLeft", "(I)I"⟩
abbrev cX6_gives : ByteArray := prog_8_method_15_code
def yX6_gives : MethodName := ⟨RX6, "gives", "(I)I"⟩
abbrev cX6_takes : ByteArray := prog_8_method_16_code
def yX6_takes : MethodName := ⟨RX6, "takes", "(I)I"⟩
abbrev cX6_needs : ByteArray := prog_8_method_17_code
def yX6_needs : MethodName := ⟨RX6, "needs", "(I)I"⟩
abbrev cX6_productOf : ByteArray := prog_8_method_18_code
def yX6_productOf : MethodName := ⟨RX6, "productOf", "(I)I"⟩
abbrev cX6_energyOf : ByteArray := prog_8_method_19_code
def yX6_energyOf : MethodName := ⟨RX6, "energyOf", "(I)I"⟩
abbrev cX6_readyTrains : ByteArray := prog_8_method_20_code
def yX6_readyTrains : MethodName := ⟨RX6, "readyTrains", "()I"⟩
abbrev cX6_addTank : ByteArray := prog_8_method_21_code
def yX6_addTank : MethodName := ⟨RX6, "addTank", "(I)I"⟩
abbrev cX6_setDemand : ByteArray := prog_8_method_22_code
def yX6_setDemand : MethodName := ⟨RX6, "setDemand", "(IIII)I"⟩
abbrev cX6_setPrice : ByteArray := prog_8_method_23_code
def yX6_setPrice : MethodName := ⟨RX6, "setPrice", "(III)I"⟩
abbrev cX6_demand : ByteArray := prog_8_method_24_code
def yX6_demand : MethodName := ⟨RX6, "demand", "(II)I"⟩
abbrev cX6_level : ByteArray := prog_8_method_25_code
def yX6_level : MethodName := ⟨RX6, "level", "(I)I"⟩
abbrev cX6_shortOf : ByteArray := prog_8_method_26_code
def yX6_shortOf : MethodName := ⟨RX6, "shortOf", "(I)I"⟩
abbrev cX6_cleans : ByteArray := prog_8_method_27_code
def yX6_cleans : MethodName := ⟨RX6, "cleans", "(I)V"⟩
abbrev cX6_works : ByteArray := prog_8_method_28_code
def yX6_works : MethodName := ⟨RX6, "works", "(I)V"⟩
abbrev cX6_goes : ByteArray := prog_8_method_29_code
def yX6_goes : MethodName := ⟨RX6, "goes", "(IZ)Z"⟩
abbrev cX6_orderAt : ByteArray := prog_8_method_30_code
def yX6_orderAt : MethodName := ⟨RX6, "orderAt", "(I)I"⟩
abbrev cX6_forgets : ByteArray := prog_8_method_31_code
def yX6_forgets : MethodName := ⟨RX6, "forgets", "(I)V"⟩
abbrev cX6_passes : ByteArray := prog_8_method_32_code
def yX6_passes : MethodName := ⟨RX6, "passes", "(Z)V"⟩
abbrev cX6_pass : ByteArray := prog_8_method_33_code
def yX6_pass : MethodName := ⟨RX6, "pass", "(Z)I"⟩
abbrev cX6_run : ByteArray := prog_8_method_34_code
def yX6_run : MethodName := ⟨RX6, "run", "(I)I"⟩
abbrev cX6_setHorizon : ByteArray := prog_8_method_35_code
def yX6_setHorizon : MethodName := ⟨RX6, "setHorizon", "(I)I"⟩
abbrev cX6_order : ByteArray := prog_8_method_36_code
def yX6_order : MethodName := ⟨RX6, "order", "(IZ)I"⟩
abbrev cX6_takeBack : ByteArray := prog_8_method_37_code
def yX6_takeBack : MethodName := ⟨RX6, "takeBack", "(I)Z"⟩
abbrev cX6_halfHour : ByteArray := prog_8_method_38_code
def yX6_halfHour : MethodName := ⟨RX6, "halfHour", "()I"⟩
abbrev cX6_isAllowed : ByteArray := prog_8_method_39_code
def yX6_isAllowed : MethodName := ⟨RX6, "isAllowed", "(II)Z"⟩
abbrev cX6_laysBack : ByteArray := prog_8_method_40_code
def yX6_laysBack : MethodName := ⟨RX6, "laysBack", "([I[I)V"⟩
abbrev cX6_looks : ByteArray := prog_8_method_41_code
def yX6_looks : MethodName := ⟨RX6, "looks", "(I)V"⟩
abbrev cX6_bestCost : ByteArray := prog_8_method_42_code
def yX6_bestCost : MethodName := ⟨RX6, "bestCost", "(I)I"⟩
abbrev cX6_bestCostByTrying : ByteArray := prog_8_method_43_code
def yX6_bestCostByTrying : MethodName := ⟨RX6, "bestCostByTrying", "(I)I"⟩
abbrev cX6_isOnInBest : ByteArray := prog_8_method_44_code
def yX6_isOnInBest : MethodName := ⟨RX6, "isOnInBest", "(II)Z"⟩
abbrev cX6_allowedSchedules : ByteArray := prog_8_method_45_code
def yX6_allowedSchedules : MethodName := ⟨RX6, "allowedSchedules", "(I)I"⟩
abbrev cX6_feed : ByteArray := prog_8_method_46_code
def yX6_feed : MethodName := ⟨RX6, "feed", "()J"⟩
abbrev cX6_product : ByteArray := prog_8_method_47_code
def yX6_product : MethodName := ⟨RX6, "product", "()J"⟩
abbrev cX6_brine : ByteArray := prog_8_method_48_code
def yX6_brine : MethodName := ⟨RX6, "brine", "()J"⟩
abbrev cX6_spilled : ByteArray := prog_8_method_49_code
def yX6_spilled : MethodName := ⟨RX6, "spilled", "()J"⟩
abbrev cX6_spilledByBalance : ByteArray := prog_8_method_50_code
def yX6_spilledByBalance : MethodName := ⟨RX6, "spilledByBalance", "()J"⟩
abbrev cX6_cost : ByteArray := prog_8_method_51_code
def yX6_cost : MethodName := ⟨RX6, "cost", "()J"⟩
abbrev cX6_isBalanced : ByteArray := prog_8_method_52_code
def yX6_isBalanced : MethodName := ⟨RX6, "isBalanced", "()Z"⟩
abbrev cX6_servedShare : ByteArray := prog_8_method_53_code
def yX6_servedShare : MethodName := ⟨RX6, "servedShare", "()F"⟩
abbrev cX6_meanCost : ByteArray := prog_8_method_54_code
def yX6_meanCost : MethodName := ⟨RX6, "meanCost", "()D"⟩
def RJx145de : String := "java/io/Serializable"
def TJx145de : u_T := fun k => match k with
  | _ => ("", "", "", false)
def tyJx145de : Nat → FieldType := fun k => match k with
  | _ => .int
abbrev wsJx145de0 : List Cond := u_ws RJx145de TJx145de 0
theorem nmJx145de : ∀ a, a < 0 → ∀ b, b < 0 → a ≠ b → (TJx145de a).2.1 ≠ (TJx145de b).2.1 := by decide +kernel
theorem tyJx145de_ok : ∀ k, k < 0 → parseFieldDescriptor (TJx145de k).2.2.1 = some (tyJx145de k) := by decide +kernel
def RJx00060 : String := "java/lang/ArrayIndexOutOfBoundsException"
def TJx00060 : u_T := fun k => match k with
  | 0 => ("java/lang/Throwable", "backtrace", "Ljava/lang/Object;", false)
  | 1 => ("java/lang/Throwable", "detailMessage", "Ljava/lang/String;", false)
  | 2 => ("java/lang/Throwable", "cause", "Ljava/lang/Throwable;", false)
  | 3 => ("java/lang/Throwable", "stackTrace", "[Ljava/lang/StackTraceElement;", false)
  | 4 => ("java/lang/Throwable", "depth", "I", false)
  | _ => ("java/lang/Throwable", "suppressedExceptions", "Ljava/util/List;", false)
def tyJx00060 : Nat → FieldType := fun k => match k with
  | 0 => .object "java/lang/Object"
  | 1 => .object "java/lang/String"
  | 2 => .object "java/lang/Throwable"
  | 3 => .array (.object "java/lang/StackTraceElement")
  | 4 => .int
  | _ => .object "java/util/List"
abbrev wsJx000600 : List Cond := u_ws RJx00060 TJx00060 6
theorem nmJx00060 : ∀ a, a < 6 → ∀ b, b < 6 → a ≠ b → (TJx00060 a).2.1 ≠ (TJx00060 b).2.1 := by decide +kernel
theorem tyJx00060_ok : ∀ k, k < 6 → parseFieldDescriptor (TJx00060 k).2.2.1 = some (tyJx00060 k) := by decide +kernel
abbrev cJx00060_init_a7421 : ByteArray := prog_11_method_2_code
def yJx00060_init_a7421 : MethodName := ⟨RJx00060, "<init>", "(Ljava/lang/String;)V"⟩
def RJ9 : String := "java/lang/Math"
def TJ9 : u_T := fun k => match k with
  | _ => ("", "", "", false)
def tyJ9 : Nat → FieldType := fun k => match k with
  | _ => .int
abbrev wsJ90 : List Cond := u_ws RJ9 TJ9 0
theorem nmJ9 : ∀ a, a < 0 → ∀ b, b < 0 → a ≠ b → (TJ9 a).2.1 ≠ (TJ9 b).2.1 := by decide +kernel
theorem tyJ9_ok : ∀ k, k < 0 → parseFieldDescriptor (TJ9 k).2.2.1 = some (tyJ9 k) := by decide +kernel
abbrev cJ9_floorMod_7cf53 : ByteArray := prog_16_method_50_code
def yJ9_floorMod_7cf53 : MethodName := ⟨RJ9, "floorMod", "(II)I"⟩
abbrev cJ9_max_7cf53 : ByteArray := prog_16_method_65_code
def yJ9_max_7cf53 : MethodName := ⟨RJ9, "max", "(II)I"⟩
abbrev cJ9_min_7cf53 : ByteArray := prog_16_method_69_code
def yJ9_min_7cf53 : MethodName := ⟨RJ9, "min", "(II)I"⟩
def RJ0 : String := "java/lang/String"
def TJ0 : u_T := fun k => match k with
  | 0 => ("java/lang/String", "value", "[B", true)
  | _ => ("java/lang/String", "coder", "B", true)
def tyJ0 : Nat → FieldType := fun k => match k with
  | 0 => .array .byte
  | _ => .byte
abbrev wsJ00 : List Cond := u_ws RJ0 TJ0 2
theorem nmJ0 : ∀ a, a < 2 → ∀ b, b < 2 → a ≠ b → (TJ0 a).2.1 ≠ (TJ0 b).2.1 := by decide +kernel
theorem tyJ0_ok : ∀ k, k < 2 → parseFieldDescriptor (TJ0 k).2.2.1 = some (tyJ0 k) := by decide +kernel
def RJ10 : String := "java/lang/System"
def TJ10 : u_T := fun k => match k with
  | _ => ("", "", "", false)
def tyJ10 : Nat → FieldType := fun k => match k with
  | _ => .int
abbrev wsJ100 : List Cond := u_ws RJ10 TJ10 0
theorem nmJ10 : ∀ a, a < 0 → ∀ b, b < 0 → a ≠ b → (TJ10 a).2.1 ≠ (TJ10 b).2.1 := by decide +kernel
theorem tyJ10_ok : ∀ k, k < 0 → parseFieldDescriptor (TJ10 k).2.2.1 = some (tyJ10 k) := by decide +kernel
def RJ7 : String := "java/util/Arrays"
def TJ7 : u_T := fun k => match k with
  | _ => ("", "", "", false)
def tyJ7 : Nat → FieldType := fun k => match k with
  | _ => .int
abbrev wsJ70 : List Cond := u_ws RJ7 TJ7 0
theorem nmJ7 : ∀ a, a < 0 → ∀ b, b < 0 → a ≠ b → (TJ7 a).2.1 ≠ (TJ7 b).2.1 := by decide +kernel
theorem tyJ7_ok : ∀ k, k < 0 → parseFieldDescriptor (TJ7 k).2.2.1 = some (tyJ7 k) := by decide +kernel
abbrev cJ7_fill_53178 : ByteArray := prog_22_method_103_code
def yJ7_fill_53178 : MethodName := ⟨RJ7, "fill", "([II)V"⟩
def RL : String := "MembranePlantLaw"
abbrev cL_addTrain : ByteArray := method_3_code
def yL_addTrain : MethodName := ⟨RL, "addTrain", "(LMembranePlant;I[J)I"⟩
abbrev cL_setPressure : ByteArray := method_4_code
def yL_setPressure : MethodName := ⟨RL, "setPressure", "(LMembranePlant;II[J)I"⟩
abbrev cL_setSalinity : ByteArray := method_5_code
def yL_setSalinity : MethodName := ⟨RL, "setSalinity", "(LMembranePlant;I[J)I"⟩
abbrev cL_setRecovery : ByteArray := method_6_code
def yL_setRecovery : MethodName := ⟨RL, "setRecovery", "(LMembranePlant;I[J)I"⟩
abbrev cL_clean : ByteArray := method_7_code
def yL_clean : MethodName := ⟨RL, "clean", "(LMembranePlant;I[J)I"⟩
abbrev cL_fouling : ByteArray := method_8_code
def yL_fouling : MethodName := ⟨RL, "fouling", "(LMembranePlant;I[J)I"⟩
abbrev cL_wear : ByteArray := method_9_code
def yL_wear : MethodName := ⟨RL, "wear", "(LMembranePlant;I[J)I"⟩
abbrev cL_cleaningLeft : ByteArray := method_10_code
def yL_cleaningLeft : MethodName := ⟨RL, "cleaningLeft", "(LMembranePlant;I[J)I"⟩
abbrev cL_productOf : ByteArray := method_11_code
def yL_productOf : MethodName := ⟨RL, "productOf", "(LMembranePlant;I[J)I"⟩
abbrev cL_energyOf : ByteArray := method_12_code
def yL_energyOf : MethodName := ⟨RL, "energyOf", "(LMembranePlant;I[J)I"⟩
abbrev cL_addTank : ByteArray := method_13_code
def yL_addTank : MethodName := ⟨RL, "addTank", "(LMembranePlant;I[J)I"⟩
abbrev cL_setDemand : ByteArray := method_14_code
def yL_setDemand : MethodName := ⟨RL, "setDemand", "(LMembranePlant;IIII[J)I"⟩
abbrev cL_setPrice : ByteArray := method_15_code
def yL_setPrice : MethodName := ⟨RL, "setPrice", "(LMembranePlant;III[J)I"⟩
abbrev cL_demand : ByteArray := method_16_code
def yL_demand : MethodName := ⟨RL, "demand", "(LMembranePlant;II[J)I"⟩
abbrev cL_level : ByteArray := method_17_code
def yL_level : MethodName := ⟨RL, "level", "(LMembranePlant;I[J)I"⟩
abbrev cL_shortOf : ByteArray := method_18_code
def yL_shortOf : MethodName := ⟨RL, "shortOf", "(LMembranePlant;I[J)I"⟩
abbrev cL_run : ByteArray := method_19_code
def yL_run : MethodName := ⟨RL, "run", "(LMembranePlant;I[J)I"⟩
abbrev cL_setHorizon : ByteArray := method_20_code
def yL_setHorizon : MethodName := ⟨RL, "setHorizon", "(LMembranePlant;I[J)I"⟩
abbrev cL_order : ByteArray := method_21_code
def yL_order : MethodName := ⟨RL, "order", "(LMembranePlant;IZ[J)I"⟩
abbrev cL_takeBack : ByteArray := method_22_code
def yL_takeBack : MethodName := ⟨RL, "takeBack", "(LMembranePlant;I[J)I"⟩
abbrev cL_bestCost : ByteArray := method_23_code
def yL_bestCost : MethodName := ⟨RL, "bestCost", "(LMembranePlant;I[J)I"⟩
abbrev cL_bestCostByTrying : ByteArray := method_24_code
def yL_bestCostByTrying : MethodName := ⟨RL, "bestCostByTrying", "(LMembranePlant;I[J)I"⟩
abbrev cL_isOnInBest : ByteArray := method_25_code
def yL_isOnInBest : MethodName := ⟨RL, "isOnInBest", "(LMembranePlant;II[J)I"⟩
abbrev cL_allowedSchedules : ByteArray := method_26_code
def yL_allowedSchedules : MethodName := ⟨RL, "allowedSchedules", "(LMembranePlant;I[J)I"⟩
abbrev cL_servedShare : ByteArray := method_27_code
def yL_servedShare : MethodName := ⟨RL, "servedShare", "(LMembranePlant;[D)I"⟩
abbrev cL_meanCost : ByteArray := method_28_code
def yL_meanCost : MethodName := ⟨RL, "meanCost", "(LMembranePlant;[D)I"⟩
abbrev cL_law : ByteArray := code
def yL_law : MethodName := ⟨RL, "law", "([I)Z"⟩
end
section
theorem dX0_init_0 : decode cX0_init 0 = .ok (.aload_n 0, 1) := by decide +kernel
theorem dX0_init_1 : decode cX0_init 1 = .ok (.invokespecial 3, 3) := by decide +kernel
theorem dX0_init_4 : decode cX0_init 4 = .ok (.aload_n 0, 1) := by decide +kernel
theorem dX0_init_5 : decode cX0_init 5 = .ok (.iconst 3, 1) := by decide +kernel
theorem dX0_init_6 : decode cX0_init 6 = .ok (.newarray .int, 2) := by decide +kernel
theorem dX0_init_8 : decode cX0_init 8 = .ok (.putfield 9, 3) := by decide +kernel
theorem dX0_init_11 : decode cX0_init 11 = .ok (.return_, 1) := by decide +kernel
theorem dX0_add_0 : decode cX0_add 0 = .ok (.aload_n 0, 1) := by decide +kernel
theorem dX0_add_1 : decode cX0_add 1 = .ok (.dup, 1) := by decide +kernel
theorem dX0_add_2 : decode cX0_add 2 = .ok (.getfield 15, 3) := by decide +kernel
theorem dX0_add_5 : decode cX0_add 5 = .ok (.aload_n 1, 1) := by decide +kernel
theorem dX0_add_6 : decode cX0_add 6 = .ok (.getfield 19, 3) := by decide +kernel
theorem dX0_add_9 : decode cX0_add 9 = .ok (.i2l, 1) := by decide +kernel
theorem dX0_add_10 : decode cX0_add 10 = .ok (.ladd, 1) := by decide +kernel
theorem dX0_add_11 : decode cX0_add 11 = .ok (.putfield 15, 3) := by decide +kernel
theorem dX0_add_14 : decode cX0_add 14 = .ok (.aload_n 0, 1) := by decide +kernel
theorem dX0_add_15 : decode cX0_add 15 = .ok (.dup, 1) := by decide +kernel
theorem dX0_add_16 : decode cX0_add 16 = .ok (.getfield 24, 3) := by decide +kernel
theorem dX0_add_19 : decode cX0_add 19 = .ok (.aload_n 1, 1) := by decide +kernel
theorem dX0_add_20 : decode cX0_add 20 = .ok (.getfield 27, 3) := by decide +kernel
theorem dX0_add_23 : decode cX0_add 23 = .ok (.i2l, 1) := by decide +kernel
theorem dX0_add_24 : decode cX0_add 24 = .ok (.ladd, 1) := by decide +kernel
theorem dX0_add_25 : decode cX0_add 25 = .ok (.putfield 24, 3) := by decide +kernel
theorem dX0_add_28 : decode cX0_add 28 = .ok (.aload_n 0, 1) := by decide +kernel
theorem dX0_add_29 : decode cX0_add 29 = .ok (.dup, 1) := by decide +kernel
theorem dX0_add_30 : decode cX0_add 30 = .ok (.getfield 29, 3) := by decide +kernel
theorem dX0_add_33 : decode cX0_add 33 = .ok (.aload_n 1, 1) := by decide +kernel
theorem dX0_add_34 : decode cX0_add 34 = .ok (.getfield 32, 3) := by decide +kernel
theorem dX0_add_37 : decode cX0_add 37 = .ok (.i2l, 1) := by decide +kernel
theorem dX0_add_38 : decode cX0_add 38 = .ok (.ladd, 1) := by decide +kernel
theorem dX0_add_39 : decode cX0_add 39 = .ok (.putfield 29, 3) := by decide +kernel
theorem dX0_add_42 : decode cX0_add 42 = .ok (.aload_n 0, 1) := by decide +kernel
theorem dX0_add_43 : decode cX0_add 43 = .ok (.dup, 1) := by decide +kernel
theorem dX0_add_44 : decode cX0_add 44 = .ok (.getfield 34, 3) := by decide +kernel
theorem dX0_add_47 : decode cX0_add 47 = .ok (.aload_n 1, 1) := by decide +kernel
theorem dX0_add_48 : decode cX0_add 48 = .ok (.getfield 37, 3) := by decide +kernel
theorem dX0_add_51 : decode cX0_add 51 = .ok (.i2l, 1) := by decide +kernel
theorem dX0_add_52 : decode cX0_add 52 = .ok (.ladd, 1) := by decide +kernel
theorem dX0_add_53 : decode cX0_add 53 = .ok (.putfield 34, 3) := by decide +kernel
theorem dX0_add_56 : decode cX0_add 56 = .ok (.aload_n 0, 1) := by decide +kernel
theorem dX0_add_57 : decode cX0_add 57 = .ok (.dup, 1) := by decide +kernel
theorem dX0_add_58 : decode cX0_add 58 = .ok (.getfield 39, 3) := by decide +kernel
theorem dX0_add_61 : decode cX0_add 61 = .ok (.aload_n 1, 1) := by decide +kernel
theorem dX0_add_62 : decode cX0_add 62 = .ok (.getfield 42, 3) := by decide +kernel
theorem dX0_add_65 : decode cX0_add 65 = .ok (.i2l, 1) := by decide +kernel
theorem dX0_add_66 : decode cX0_add 66 = .ok (.ladd, 1) := by decide +kernel
theorem dX0_add_67 : decode cX0_add 67 = .ok (.putfield 39, 3) := by decide +kernel
theorem dX0_add_70 : decode cX0_add 70 = .ok (.aload_n 0, 1) := by decide +kernel
theorem dX0_add_71 : decode cX0_add 71 = .ok (.dup, 1) := by decide +kernel
theorem dX0_add_72 : decode cX0_add 72 = .ok (.getfield 44, 3) := by decide +kernel
theorem dX0_add_75 : decode cX0_add 75 = .ok (.aload_n 1, 1) := by decide +kernel
theorem dX0_add_76 : decode cX0_add 76 = .ok (.getfield 47, 3) := by decide +kernel
theorem dX0_add_79 : decode cX0_add 79 = .ok (.i2l, 1) := by decide +kernel
theorem dX0_add_80 : decode cX0_add 80 = .ok (.ladd, 1) := by decide +kernel
theorem dX0_add_81 : decode cX0_add 81 = .ok (.putfield 44, 3) := by decide +kernel
theorem dX0_add_84 : decode cX0_add 84 = .ok (.aload_n 0, 1) := by decide +kernel
theorem dX0_add_85 : decode cX0_add 85 = .ok (.dup, 1) := by decide +kernel
theorem dX0_add_86 : decode cX0_add 86 = .ok (.getfield 49, 3) := by decide +kernel
theorem dX0_add_89 : decode cX0_add 89 = .ok (.aload_n 1, 1) := by decide +kernel
theorem dX0_add_90 : decode cX0_add 90 = .ok (.getfield 52, 3) := by decide +kernel
theorem dX0_add_93 : decode cX0_add 93 = .ok (.i2l, 1) := by decide +kernel
theorem dX0_add_94 : decode cX0_add 94 = .ok (.ladd, 1) := by decide +kernel
theorem dX0_add_95 : decode cX0_add 95 = .ok (.putfield 49, 3) := by decide +kernel
theorem dX0_add_98 : decode cX0_add 98 = .ok (.iconst 0, 1) := by decide +kernel
theorem dX0_add_99 : decode cX0_add 99 = .ok (.istore_n 2, 1) := by decide +kernel
theorem dX0_add_100 : decode cX0_add 100 = .ok (.iload_n 2, 1) := by decide +kernel
theorem dX0_add_101 : decode cX0_add 101 = .ok (.iconst 3, 1) := by decide +kernel
theorem dX0_add_102 : decode cX0_add 102 = .ok (.if_icmp .ge 24, 3) := by decide +kernel
theorem dX0_add_105 : decode cX0_add 105 = .ok (.aload_n 0, 1) := by decide +kernel
theorem dX0_add_106 : decode cX0_add 106 = .ok (.getfield 9, 3) := by decide +kernel
theorem dX0_add_109 : decode cX0_add 109 = .ok (.iload_n 2, 1) := by decide +kernel
theorem dX0_add_110 : decode cX0_add 110 = .ok (.dup2, 1) := by decide +kernel
theorem dX0_add_111 : decode cX0_add 111 = .ok (.iaload, 1) := by decide +kernel
theorem dX0_add_112 : decode cX0_add 112 = .ok (.aload_n 1, 1) := by decide +kernel
theorem dX0_add_113 : decode cX0_add 113 = .ok (.getfield 54, 3) := by decide +kernel
theorem dX0_add_116 : decode cX0_add 116 = .ok (.iload_n 2, 1) := by decide +kernel
theorem dX0_add_117 : decode cX0_add 117 = .ok (.iaload, 1) := by decide +kernel
theorem dX0_add_118 : decode cX0_add 118 = .ok (.iadd, 1) := by decide +kernel
theorem dX0_add_119 : decode cX0_add 119 = .ok (.iastore, 1) := by decide +kernel
theorem dX0_add_120 : decode cX0_add 120 = .ok (.iinc 2 1, 3) := by decide +kernel
theorem dX0_add_123 : decode cX0_add 123 = .ok (.goto (-23), 3) := by decide +kernel
theorem dX0_add_126 : decode cX0_add 126 = .ok (.return_, 1) := by decide +kernel
theorem dX1_init_0 : decode cX1_init 0 = .ok (.aload_n 0, 1) := by decide +kernel
theorem dX1_init_1 : decode cX1_init 1 = .ok (.invokespecial 3, 3) := by decide +kernel
theorem dX1_init_4 : decode cX1_init 4 = .ok (.aload_n 0, 1) := by decide +kernel
theorem dX1_init_5 : decode cX1_init 5 = .ok (.bipush 6, 2) := by decide +kernel
theorem dX1_init_7 : decode cX1_init 7 = .ok (.newarray .int, 2) := by decide +kernel
theorem dX1_init_9 : decode cX1_init 9 = .ok (.putfield 9, 3) := by decide +kernel
theorem dX1_init_12 : decode cX1_init 12 = .ok (.aload_n 0, 1) := by decide +kernel
theorem dX1_init_13 : decode cX1_init 13 = .ok (.bipush 6, 2) := by decide +kernel
theorem dX1_init_15 : decode cX1_init 15 = .ok (.newarray .int, 2) := by decide +kernel
theorem dX1_init_17 : decode cX1_init 17 = .ok (.putfield 15, 3) := by decide +kernel
theorem dX1_init_20 : decode cX1_init 20 = .ok (.return_, 1) := by decide +kernel
theorem dX1_told_0 : decode cX1_told 0 = .ok (.aload_n 0, 1) := by decide +kernel
theorem dX1_told_1 : decode cX1_told 1 = .ok (.iload_n 1, 1) := by decide +kernel
theorem dX1_told_2 : decode cX1_told 2 = .ok (.invokevirtual 18, 3) := by decide +kernel
theorem dX1_told_5 : decode cX1_told 5 = .ok (.istore_n 2, 1) := by decide +kernel
theorem dX1_told_6 : decode cX1_told 6 = .ok (.iload_n 2, 1) := by decide +kernel
theorem dX1_told_7 : decode cX1_told 7 = .ok (.ifCond .ge 7, 3) := by decide +kernel
theorem dX1_told_10 : decode cX1_told 10 = .ok (.iconst (-1), 1) := by decide +kernel
theorem dX1_told_11 : decode cX1_told 11 = .ok (.goto 9, 3) := by decide +kernel
theorem dX1_told_14 : decode cX1_told 14 = .ok (.aload_n 0, 1) := by decide +kernel
theorem dX1_told_15 : decode cX1_told 15 = .ok (.getfield 15, 3) := by decide +kernel
theorem dX1_told_18 : decode cX1_told 18 = .ok (.iload_n 2, 1) := by decide +kernel
theorem dX1_told_19 : decode cX1_told 19 = .ok (.iaload, 1) := by decide +kernel
theorem dX1_told_20 : decode cX1_told 20 = .ok (.ireturn, 1) := by decide +kernel
theorem dX1_put_0 : decode cX1_put 0 = .ok (.aload_n 0, 1) := by decide +kernel
theorem dX1_put_1 : decode cX1_put 1 = .ok (.iload_n 1, 1) := by decide +kernel
theorem dX1_put_2 : decode cX1_put 2 = .ok (.invokevirtual 18, 3) := by decide +kernel
theorem dX1_put_5 : decode cX1_put 5 = .ok (.istore_n 3, 1) := by decide +kernel
theorem dX1_put_6 : decode cX1_put 6 = .ok (.iload_n 3, 1) := by decide +kernel
theorem dX1_put_7 : decode cX1_put 7 = .ok (.ifCond .ge 35, 3) := by decide +kernel
theorem dX1_put_10 : decode cX1_put 10 = .ok (.aload_n 0, 1) := by decide +kernel
theorem dX1_put_11 : decode cX1_put 11 = .ok (.getfield 22, 3) := by decide +kernel
theorem dX1_put_14 : decode cX1_put 14 = .ok (.bipush 6, 2) := by decide +kernel
theorem dX1_put_16 : decode cX1_put 16 = .ok (.if_icmp .lt 4, 3) := by decide +kernel
theorem dX1_put_19 : decode cX1_put 19 = .ok (.return_, 1) := by decide +kernel
theorem dX1_put_20 : decode cX1_put 20 = .ok (.aload_n 0, 1) := by decide +kernel
theorem dX1_put_21 : decode cX1_put 21 = .ok (.getfield 22, 3) := by decide +kernel
theorem dX1_put_24 : decode cX1_put 24 = .ok (.istore_n 3, 1) := by decide +kernel
theorem dX1_put_25 : decode cX1_put 25 = .ok (.aload_n 0, 1) := by decide +kernel
theorem dX1_put_26 : decode cX1_put 26 = .ok (.getfield 9, 3) := by decide +kernel
theorem dX1_put_29 : decode cX1_put 29 = .ok (.iload_n 3, 1) := by decide +kernel
theorem dX1_put_30 : decode cX1_put 30 = .ok (.iload_n 1, 1) := by decide +kernel
theorem dX1_put_31 : decode cX1_put 31 = .ok (.iastore, 1) := by decide +kernel
theorem dX1_put_32 : decode cX1_put 32 = .ok (.aload_n 0, 1) := by decide +kernel
theorem dX1_put_33 : decode cX1_put 33 = .ok (.dup, 1) := by decide +kernel
theorem dX1_put_34 : decode cX1_put 34 = .ok (.getfield 22, 3) := by decide +kernel
theorem dX1_put_37 : decode cX1_put 37 = .ok (.iconst 1, 1) := by decide +kernel
theorem dX1_put_38 : decode cX1_put 38 = .ok (.iadd, 1) := by decide +kernel
theorem dX1_put_39 : decode cX1_put 39 = .ok (.putfield 22, 3) := by decide +kernel
theorem dX1_put_42 : decode cX1_put 42 = .ok (.aload_n 0, 1) := by decide +kernel
theorem dX1_put_43 : decode cX1_put 43 = .ok (.getfield 15, 3) := by decide +kernel
theorem dX1_put_46 : decode cX1_put 46 = .ok (.iload_n 3, 1) := by decide +kernel
theorem dX1_put_47 : decode cX1_put 47 = .ok (.iload_n 2, 1) := by decide +kernel
theorem dX1_put_48 : decode cX1_put 48 = .ok (.iastore, 1) := by decide +kernel
theorem dX1_put_49 : decode cX1_put 49 = .ok (.return_, 1) := by decide +kernel
theorem dX1_forget_0 : decode cX1_forget 0 = .ok (.aload_n 0, 1) := by decide +kernel
theorem dX1_forget_1 : decode cX1_forget 1 = .ok (.iload_n 1, 1) := by decide +kernel
theorem dX1_forget_2 : decode cX1_forget 2 = .ok (.invokevirtual 18, 3) := by decide +kernel
theorem dX1_forget_5 : decode cX1_forget 5 = .ok (.istore_n 2, 1) := by decide +kernel
theorem dX1_forget_6 : decode cX1_forget 6 = .ok (.iload_n 2, 1) := by decide +kernel
theorem dX1_forget_7 : decode cX1_forget 7 = .ok (.ifCond .lt 43, 3) := by decide +kernel
theorem dX1_forget_10 : decode cX1_forget 10 = .ok (.aload_n 0, 1) := by decide +kernel
theorem dX1_forget_11 : decode cX1_forget 11 = .ok (.dup, 1) := by decide +kernel
theorem dX1_forget_12 : decode cX1_forget 12 = .ok (.getfield 22, 3) := by decide +kernel
theorem dX1_forget_15 : decode cX1_forget 15 = .ok (.iconst 1, 1) := by decide +kernel
theorem dX1_forget_16 : decode cX1_forget 16 = .ok (.isub, 1) := by decide +kernel
theorem dX1_forget_17 : decode cX1_forget 17 = .ok (.putfield 22, 3) := by decide +kernel
theorem dX1_forget_20 : decode cX1_forget 20 = .ok (.aload_n 0, 1) := by decide +kernel
theorem dX1_forget_21 : decode cX1_forget 21 = .ok (.getfield 9, 3) := by decide +kernel
theorem dX1_forget_24 : decode cX1_forget 24 = .ok (.iload_n 2, 1) := by decide +kernel
theorem dX1_forget_25 : decode cX1_forget 25 = .ok (.aload_n 0, 1) := by decide +kernel
theorem dX1_forget_26 : decode cX1_forget 26 = .ok (.getfield 9, 3) := by decide +kernel
theorem dX1_forget_29 : decode cX1_forget 29 = .ok (.aload_n 0, 1) := by decide +kernel
theorem dX1_forget_30 : decode cX1_forget 30 = .ok (.getfield 22, 3) := by decide +kernel
theorem dX1_forget_33 : decode cX1_forget 33 = .ok (.iaload, 1) := by decide +kernel
theorem dX1_forget_34 : decode cX1_forget 34 = .ok (.iastore, 1) := by decide +kernel
theorem dX1_forget_35 : decode cX1_forget 35 = .ok (.aload_n 0, 1) := by decide +kernel
theorem dX1_forget_36 : decode cX1_forget 36 = .ok (.getfield 15, 3) := by decide +kernel
theorem dX1_forget_39 : decode cX1_forget 39 = .ok (.iload_n 2, 1) := by decide +kernel
theorem dX1_forget_40 : decode cX1_forget 40 = .ok (.aload_n 0, 1) := by decide +kernel
theorem dX1_forget_41 : decode cX1_forget 41 = .ok (.getfield 15, 3) := by decide +kernel
theorem dX1_forget_44 : decode cX1_forget 44 = .ok (.aload_n 0, 1) := by decide +kernel
theorem dX1_forget_45 : decode cX1_forget 45 = .ok (.getfield 22, 3) := by decide +kernel
theorem dX1_forget_48 : decode cX1_forget 48 = .ok (.iaload, 1) := by decide +kernel
theorem dX1_forget_49 : decode cX1_forget 49 = .ok (.iastore, 1) := by decide +kernel
theorem dX1_forget_50 : decode cX1_forget 50 = .ok (.return_, 1) := by decide +kernel
theorem dX1_find_0 : decode cX1_find 0 = .ok (.iconst 0, 1) := by decide +kernel
theorem dX1_find_1 : decode cX1_find 1 = .ok (.istore_n 2, 1) := by decide +kernel
theorem dX1_find_2 : decode cX1_find 2 = .ok (.iload_n 2, 1) := by decide +kernel
theorem dX1_find_3 : decode cX1_find 3 = .ok (.aload_n 0, 1) := by decide +kernel
theorem dX1_find_4 : decode cX1_find 4 = .ok (.getfield 22, 3) := by decide +kernel
theorem dX1_find_7 : decode cX1_find 7 = .ok (.if_icmp .ge 21, 3) := by decide +kernel
theorem dX1_find_10 : decode cX1_find 10 = .ok (.aload_n 0, 1) := by decide +kernel
theorem dX1_find_11 : decode cX1_find 11 = .ok (.getfield 9, 3) := by decide +kernel
theorem dX1_find_14 : decode cX1_find 14 = .ok (.iload_n 2, 1) := by decide +kernel
theorem dX1_find_15 : decode cX1_find 15 = .ok (.iaload, 1) := by decide +kernel
theorem dX1_find_16 : decode cX1_find 16 = .ok (.iload_n 1, 1) := by decide +kernel
theorem dX1_find_17 : decode cX1_find 17 = .ok (.if_icmp .ne 5, 3) := by decide +kernel
theorem dX1_find_20 : decode cX1_find 20 = .ok (.iload_n 2, 1) := by decide +kernel
theorem dX1_find_21 : decode cX1_find 21 = .ok (.ireturn, 1) := by decide +kernel
theorem dX1_find_22 : decode cX1_find 22 = .ok (.iinc 2 1, 3) := by decide +kernel
theorem dX1_find_25 : decode cX1_find 25 = .ok (.goto (-23), 3) := by decide +kernel
theorem dX1_find_28 : decode cX1_find 28 = .ok (.iconst (-1), 1) := by decide +kernel
theorem dX1_find_29 : decode cX1_find 29 = .ok (.ireturn, 1) := by decide +kernel
theorem dX2_init_0 : decode cX2_init 0 = .ok (.aload_n 0, 1) := by decide +kernel
theorem dX2_init_1 : decode cX2_init 1 = .ok (.invokespecial 3, 3) := by decide +kernel
theorem dX2_init_4 : decode cX2_init 4 = .ok (.aload_n 0, 1) := by decide +kernel
theorem dX2_init_5 : decode cX2_init 5 = .ok (.bipush 7, 2) := by decide +kernel
theorem dX2_init_7 : decode cX2_init 7 = .ok (.anewarray 9, 3) := by decide +kernel
theorem dX2_init_10 : decode cX2_init 10 = .ok (.putfield 11, 3) := by decide +kernel
theorem dX2_init_13 : decode cX2_init 13 = .ok (.aload_n 0, 1) := by decide +kernel
theorem dX2_init_14 : decode cX2_init 14 = .ok (.bipush 6, 2) := by decide +kernel
theorem dX2_init_16 : decode cX2_init 16 = .ok (.newarray .int, 2) := by decide +kernel
theorem dX2_init_18 : decode cX2_init 18 = .ok (.putfield 17, 3) := by decide +kernel
theorem dX2_init_21 : decode cX2_init 21 = .ok (.aload_n 0, 1) := by decide +kernel
theorem dX2_init_22 : decode cX2_init 22 = .ok (.bipush 6, 2) := by decide +kernel
theorem dX2_init_24 : decode cX2_init 24 = .ok (.newarray .int, 2) := by decide +kernel
theorem dX2_init_26 : decode cX2_init 26 = .ok (.putfield 21, 3) := by decide +kernel
theorem dX2_init_29 : decode cX2_init 29 = .ok (.aload_n 0, 1) := by decide +kernel
theorem dX2_init_30 : decode cX2_init 30 = .ok (.aload_n 1, 1) := by decide +kernel
theorem dX2_init_31 : decode cX2_init 31 = .ok (.putfield 24, 3) := by decide +kernel
theorem dX2_init_34 : decode cX2_init 34 = .ok (.aload_n 0, 1) := by decide +kernel
theorem dX2_init_35 : decode cX2_init 35 = .ok (.aload_n 2, 1) := by decide +kernel
theorem dX2_init_36 : decode cX2_init 36 = .ok (.putfield 28, 3) := by decide +kernel
theorem dX2_init_39 : decode cX2_init 39 = .ok (.iconst 0, 1) := by decide +kernel
theorem dX2_init_40 : decode cX2_init 40 = .ok (.istore_n 3, 1) := by decide +kernel
theorem dX2_init_41 : decode cX2_init 41 = .ok (.iload_n 3, 1) := by decide +kernel
theorem dX2_init_42 : decode cX2_init 42 = .ok (.bipush 6, 2) := by decide +kernel
theorem dX2_init_44 : decode cX2_init 44 = .ok (.if_icmp .gt 22, 3) := by decide +kernel
theorem dX2_init_47 : decode cX2_init 47 = .ok (.aload_n 0, 1) := by decide +kernel
theorem dX2_init_48 : decode cX2_init 48 = .ok (.getfield 11, 3) := by decide +kernel
theorem dX2_init_51 : decode cX2_init 51 = .ok (.iload_n 3, 1) := by decide +kernel
theorem dX2_init_52 : decode cX2_init 52 = .ok (.new 9, 3) := by decide +kernel
theorem dX2_init_55 : decode cX2_init 55 = .ok (.dup, 1) := by decide +kernel
theorem dX2_init_56 : decode cX2_init 56 = .ok (.invokespecial 32, 3) := by decide +kernel
theorem dX2_init_59 : decode cX2_init 59 = .ok (.aastore, 1) := by decide +kernel
theorem dX2_init_60 : decode cX2_init 60 = .ok (.iinc 3 1, 3) := by decide +kernel
theorem dX2_init_63 : decode cX2_init 63 = .ok (.goto (-22), 3) := by decide +kernel
theorem dX2_init_66 : decode cX2_init 66 = .ok (.return_, 1) := by decide +kernel
theorem dX2_begin_0 : decode cX2_begin 0 = .ok (.aload_n 0, 1) := by decide +kernel
theorem dX2_begin_1 : decode cX2_begin 1 = .ok (.getfield 11, 3) := by decide +kernel
theorem dX2_begin_4 : decode cX2_begin 4 = .ok (.iconst 0, 1) := by decide +kernel
theorem dX2_begin_5 : decode cX2_begin 5 = .ok (.aaload, 1) := by decide +kernel
theorem dX2_begin_6 : decode cX2_begin 6 = .ok (.aload_n 1, 1) := by decide +kernel
theorem dX2_begin_7 : decode cX2_begin 7 = .ok (.invokevirtual 33, 3) := by decide +kernel
theorem dX2_begin_10 : decode cX2_begin 10 = .ok (.aload_n 0, 1) := by decide +kernel
theorem dX2_begin_11 : decode cX2_begin 11 = .ok (.iload_n 3, 1) := by decide +kernel
theorem dX2_begin_12 : decode cX2_begin 12 = .ok (.bipush 6, 2) := by decide +kernel
theorem dX2_begin_14 : decode cX2_begin 14 = .ok (.invokestatic 37, 3) := by decide +kernel
theorem dX2_begin_17 : decode cX2_begin 17 = .ok (.putfield 43, 3) := by decide +kernel
theorem dX2_begin_20 : decode cX2_begin 20 = .ok (.iconst 0, 1) := by decide +kernel
theorem dX2_begin_21 : decode cX2_begin 21 = .ok (.istore 4, 2) := by decide +kernel
theorem dX2_begin_23 : decode cX2_begin 23 = .ok (.iload 4, 2) := by decide +kernel
theorem dX2_begin_25 : decode cX2_begin 25 = .ok (.aload_n 0, 1) := by decide +kernel
theorem dX2_begin_26 : decode cX2_begin 26 = .ok (.getfield 43, 3) := by decide +kernel
theorem dX2_begin_29 : decode cX2_begin 29 = .ok (.if_icmp .ge 41, 3) := by decide +kernel
theorem dX2_begin_32 : decode cX2_begin 32 = .ok (.aload_n 0, 1) := by decide +kernel
theorem dX2_begin_33 : decode cX2_begin 33 = .ok (.getfield 17, 3) := by decide +kernel
theorem dX2_begin_36 : decode cX2_begin 36 = .ok (.iload 4, 2) := by decide +kernel
theorem dX2_begin_38 : decode cX2_begin 38 = .ok (.aload_n 0, 1) := by decide +kernel
theorem dX2_begin_39 : decode cX2_begin 39 = .ok (.getfield 28, 3) := by decide +kernel
theorem dX2_begin_42 : decode cX2_begin 42 = .ok (.iload_n 2, 1) := by decide +kernel
theorem dX2_begin_43 : decode cX2_begin 43 = .ok (.iload 4, 2) := by decide +kernel
theorem dX2_begin_45 : decode cX2_begin 45 = .ok (.iadd, 1) := by decide +kernel
theorem dX2_begin_46 : decode cX2_begin 46 = .ok (.invokevirtual 47, 3) := by decide +kernel
theorem dX2_begin_49 : decode cX2_begin 49 = .ok (.iastore, 1) := by decide +kernel
theorem dX2_begin_50 : decode cX2_begin 50 = .ok (.aload_n 0, 1) := by decide +kernel
theorem dX2_begin_51 : decode cX2_begin 51 = .ok (.getfield 21, 3) := by decide +kernel
theorem dX2_begin_54 : decode cX2_begin 54 = .ok (.iload 4, 2) := by decide +kernel
theorem dX2_begin_56 : decode cX2_begin 56 = .ok (.iload_n 2, 1) := by decide +kernel
theorem dX2_begin_57 : decode cX2_begin 57 = .ok (.iload 4, 2) := by decide +kernel
theorem dX2_begin_59 : decode cX2_begin 59 = .ok (.iadd, 1) := by decide +kernel
theorem dX2_begin_60 : decode cX2_begin 60 = .ok (.invokestatic 52, 3) := by decide +kernel
theorem dX2_begin_63 : decode cX2_begin 63 = .ok (.iastore, 1) := by decide +kernel
theorem dX2_begin_64 : decode cX2_begin 64 = .ok (.iinc 4 1, 3) := by decide +kernel
theorem dX2_begin_67 : decode cX2_begin 67 = .ok (.goto (-44), 3) := by decide +kernel
theorem dX2_begin_70 : decode cX2_begin 70 = .ok (.return_, 1) := by decide +kernel
theorem dX2_findBest_0 : decode cX2_findBest 0 = .ok (.aload_n 0, 1) := by decide +kernel
theorem dX2_findBest_1 : decode cX2_findBest 1 = .ok (.aload_n 1, 1) := by decide +kernel
theorem dX2_findBest_2 : decode cX2_findBest 2 = .ok (.iload_n 2, 1) := by decide +kernel
theorem dX2_findBest_3 : decode cX2_findBest 3 = .ok (.iload_n 3, 1) := by decide +kernel
theorem dX2_findBest_4 : decode cX2_findBest 4 = .ok (.invokevirtual 55, 3) := by decide +kernel
theorem dX2_findBest_7 : decode cX2_findBest 7 = .ok (.aload_n 0, 1) := by decide +kernel
theorem dX2_findBest_8 : decode cX2_findBest 8 = .ok (.iconst 0, 1) := by decide +kernel
theorem dX2_findBest_9 : decode cX2_findBest 9 = .ok (.putfield 59, 3) := by decide +kernel
theorem dX2_findBest_12 : decode cX2_findBest 12 = .ok (.aload_n 0, 1) := by decide +kernel
theorem dX2_findBest_13 : decode cX2_findBest 13 = .ok (.ldc 62, 2) := by decide +kernel
theorem dX2_findBest_15 : decode cX2_findBest 15 = .ok (.putfield 63, 3) := by decide +kernel
theorem dX2_findBest_18 : decode cX2_findBest 18 = .ok (.aload_n 0, 1) := by decide +kernel
theorem dX2_findBest_19 : decode cX2_findBest 19 = .ok (.iconst 0, 1) := by decide +kernel
theorem dX2_findBest_20 : decode cX2_findBest 20 = .ok (.iconst 0, 1) := by decide +kernel
theorem dX2_findBest_21 : decode cX2_findBest 21 = .ok (.iconst 0, 1) := by decide +kernel
theorem dX2_findBest_22 : decode cX2_findBest 22 = .ok (.invokestatic 66, 3) := by decide +kernel
theorem dX2_findBest_25 : decode cX2_findBest 25 = .ok (.return_, 1) := by decide +kernel
theorem dX2_toldBy_0 : decode cX2_toldBy 0 = .ok (.iload_n 1, 1) := by decide +kernel
theorem dX2_toldBy_1 : decode cX2_toldBy 1 = .ok (.aload_n 0, 1) := by decide +kernel
theorem dX2_toldBy_2 : decode cX2_toldBy 2 = .ok (.getfield 43, 3) := by decide +kernel
theorem dX2_toldBy_5 : decode cX2_toldBy 5 = .ok (.iconst 1, 1) := by decide +kernel
theorem dX2_toldBy_6 : decode cX2_toldBy 6 = .ok (.isub, 1) := by decide +kernel
theorem dX2_toldBy_7 : decode cX2_toldBy 7 = .ok (.iload_n 2, 1) := by decide +kernel
theorem dX2_toldBy_8 : decode cX2_toldBy 8 = .ok (.isub, 1) := by decide +kernel
theorem dX2_toldBy_9 : decode cX2_toldBy 9 = .ok (.ishr, 1) := by decide +kernel
theorem dX2_toldBy_10 : decode cX2_toldBy 10 = .ok (.iconst 1, 1) := by decide +kernel
theorem dX2_toldBy_11 : decode cX2_toldBy 11 = .ok (.iand, 1) := by decide +kernel
theorem dX2_toldBy_12 : decode cX2_toldBy 12 = .ok (.ireturn, 1) := by decide +kernel
theorem dX2_costOf_0 : decode cX2_costOf 0 = .ok (.iconst 0, 1) := by decide +kernel
theorem dX2_costOf_1 : decode cX2_costOf 1 = .ok (.istore_n 2, 1) := by decide +kernel
theorem dX2_costOf_2 : decode cX2_costOf 2 = .ok (.iconst 0, 1) := by decide +kernel
theorem dX2_costOf_3 : decode cX2_costOf 3 = .ok (.istore_n 3, 1) := by decide +kernel
theorem dX2_costOf_4 : decode cX2_costOf 4 = .ok (.iload_n 3, 1) := by decide +kernel
theorem dX2_costOf_5 : decode cX2_costOf 5 = .ok (.aload_n 0, 1) := by decide +kernel
theorem dX2_costOf_6 : decode cX2_costOf 6 = .ok (.getfield 43, 3) := by decide +kernel
theorem dX2_costOf_9 : decode cX2_costOf 9 = .ok (.if_icmp .ge 54, 3) := by decide +kernel
theorem dX2_costOf_12 : decode cX2_costOf 12 = .ok (.aload_n 0, 1) := by decide +kernel
theorem dX2_costOf_13 : decode cX2_costOf 13 = .ok (.iload_n 1, 1) := by decide +kernel
theorem dX2_costOf_14 : decode cX2_costOf 14 = .ok (.iload_n 3, 1) := by decide +kernel
theorem dX2_costOf_15 : decode cX2_costOf 15 = .ok (.invokevirtual 70, 3) := by decide +kernel
theorem dX2_costOf_18 : decode cX2_costOf 18 = .ok (.istore 4, 2) := by decide +kernel
theorem dX2_costOf_20 : decode cX2_costOf 20 = .ok (.aload_n 0, 1) := by decide +kernel
theorem dX2_costOf_21 : decode cX2_costOf 21 = .ok (.iload_n 3, 1) := by decide +kernel
theorem dX2_costOf_22 : decode cX2_costOf 22 = .ok (.iload 4, 2) := by decide +kernel
theorem dX2_costOf_24 : decode cX2_costOf 24 = .ok (.invokevirtual 73, 3) := by decide +kernel
theorem dX2_costOf_27 : decode cX2_costOf 27 = .ok (.ifCond .eq 13, 3) := by decide +kernel
theorem dX2_costOf_30 : decode cX2_costOf 30 = .ok (.aload_n 0, 1) := by decide +kernel
theorem dX2_costOf_31 : decode cX2_costOf 31 = .ok (.iload_n 3, 1) := by decide +kernel
theorem dX2_costOf_32 : decode cX2_costOf 32 = .ok (.iload 4, 2) := by decide +kernel
theorem dX2_costOf_34 : decode cX2_costOf 34 = .ok (.invokevirtual 77, 3) := by decide +kernel
theorem dX2_costOf_37 : decode cX2_costOf 37 = .ok (.ifCond .ne 6, 3) := by decide +kernel
theorem dX2_costOf_40 : decode cX2_costOf 40 = .ok (.ldc 62, 2) := by decide +kernel
theorem dX2_costOf_42 : decode cX2_costOf 42 = .ok (.ireturn, 1) := by decide +kernel
theorem dX2_costOf_43 : decode cX2_costOf 43 = .ok (.iload_n 2, 1) := by decide +kernel
theorem dX2_costOf_44 : decode cX2_costOf 44 = .ok (.aload_n 0, 1) := by decide +kernel
theorem dX2_costOf_45 : decode cX2_costOf 45 = .ok (.getfield 11, 3) := by decide +kernel
theorem dX2_costOf_48 : decode cX2_costOf 48 = .ok (.iload_n 3, 1) := by decide +kernel
theorem dX2_costOf_49 : decode cX2_costOf 49 = .ok (.iconst 1, 1) := by decide +kernel
theorem dX2_costOf_50 : decode cX2_costOf 50 = .ok (.iadd, 1) := by decide +kernel
theorem dX2_costOf_51 : decode cX2_costOf 51 = .ok (.aaload, 1) := by decide +kernel
theorem dX2_costOf_52 : decode cX2_costOf 52 = .ok (.getfield 80, 3) := by decide +kernel
theorem dX2_costOf_55 : decode cX2_costOf 55 = .ok (.iadd, 1) := by decide +kernel
theorem dX2_costOf_56 : decode cX2_costOf 56 = .ok (.istore_n 2, 1) := by decide +kernel
theorem dX2_costOf_57 : decode cX2_costOf 57 = .ok (.iinc 3 1, 3) := by decide +kernel
theorem dX2_costOf_60 : decode cX2_costOf 60 = .ok (.goto (-56), 3) := by decide +kernel
theorem dX2_costOf_63 : decode cX2_costOf 63 = .ok (.iload_n 2, 1) := by decide +kernel
theorem dX2_costOf_64 : decode cX2_costOf 64 = .ok (.ireturn, 1) := by decide +kernel
theorem dX2_search_0 : decode cX2_search 0 = .ok (.iload_n 3, 1) := by decide +kernel
theorem dX2_search_1 : decode cX2_search 1 = .ok (.aload_n 0, 1) := by decide +kernel
theorem dX2_search_2 : decode cX2_search 2 = .ok (.getfield 63, 3) := by decide +kernel
theorem dX2_search_5 : decode cX2_search 5 = .ok (.if_icmp .lt 4, 3) := by decide +kernel
theorem dX2_search_8 : decode cX2_search 8 = .ok (.return_, 1) := by decide +kernel
theorem dX2_search_9 : decode cX2_search 9 = .ok (.iload_n 1, 1) := by decide +kernel
theorem dX2_search_10 : decode cX2_search 10 = .ok (.aload_n 0, 1) := by decide +kernel
theorem dX2_search_11 : decode cX2_search 11 = .ok (.getfield 43, 3) := by decide +kernel
theorem dX2_search_14 : decode cX2_search 14 = .ok (.if_icmp .lt 14, 3) := by decide +kernel
theorem dX2_search_17 : decode cX2_search 17 = .ok (.aload_n 0, 1) := by decide +kernel
theorem dX2_search_18 : decode cX2_search 18 = .ok (.iload_n 2, 1) := by decide +kernel
theorem dX2_search_19 : decode cX2_search 19 = .ok (.putfield 59, 3) := by decide +kernel
theorem dX2_search_22 : decode cX2_search 22 = .ok (.aload_n 0, 1) := by decide +kernel
theorem dX2_search_23 : decode cX2_search 23 = .ok (.iload_n 3, 1) := by decide +kernel
theorem dX2_search_24 : decode cX2_search 24 = .ok (.putfield 63, 3) := by decide +kernel
theorem dX2_search_27 : decode cX2_search 27 = .ok (.return_, 1) := by decide +kernel
theorem dX2_search_28 : decode cX2_search 28 = .ok (.iconst 0, 1) := by decide +kernel
theorem dX2_search_29 : decode cX2_search 29 = .ok (.istore 4, 2) := by decide +kernel
theorem dX2_search_31 : decode cX2_search 31 = .ok (.iload 4, 2) := by decide +kernel
theorem dX2_search_33 : decode cX2_search 33 = .ok (.iconst 1, 1) := by decide +kernel
theorem dX2_search_34 : decode cX2_search 34 = .ok (.if_icmp .gt 55, 3) := by decide +kernel
theorem dX2_search_37 : decode cX2_search 37 = .ok (.aload_n 0, 1) := by decide +kernel
theorem dX2_search_38 : decode cX2_search 38 = .ok (.iload_n 1, 1) := by decide +kernel
theorem dX2_search_39 : decode cX2_search 39 = .ok (.iload 4, 2) := by decide +kernel
theorem dX2_search_41 : decode cX2_search 41 = .ok (.invokevirtual 73, 3) := by decide +kernel
theorem dX2_search_44 : decode cX2_search 44 = .ok (.ifCond .eq 39, 3) := by decide +kernel
theorem dX2_search_47 : decode cX2_search 47 = .ok (.aload_n 0, 1) := by decide +kernel
theorem dX2_search_48 : decode cX2_search 48 = .ok (.iload_n 1, 1) := by decide +kernel
theorem dX2_search_49 : decode cX2_search 49 = .ok (.iload 4, 2) := by decide +kernel
theorem dX2_search_51 : decode cX2_search 51 = .ok (.invokevirtual 77, 3) := by decide +kernel
theorem dX2_search_54 : decode cX2_search 54 = .ok (.ifCond .eq 29, 3) := by decide +kernel
theorem dX2_search_57 : decode cX2_search 57 = .ok (.aload_n 0, 1) := by decide +kernel
theorem dX2_search_58 : decode cX2_search 58 = .ok (.iload_n 1, 1) := by decide +kernel
theorem dX2_search_59 : decode cX2_search 59 = .ok (.iconst 1, 1) := by decide +kernel
theorem dX2_search_60 : decode cX2_search 60 = .ok (.iadd, 1) := by decide +kernel
theorem dX2_search_61 : decode cX2_search 61 = .ok (.iload_n 2, 1) := by decide +kernel
theorem dX2_search_62 : decode cX2_search 62 = .ok (.iconst 2, 1) := by decide +kernel
theorem dX2_search_63 : decode cX2_search 63 = .ok (.imul, 1) := by decide +kernel
theorem dX2_search_64 : decode cX2_search 64 = .ok (.iload 4, 2) := by decide +kernel
theorem dX2_search_66 : decode cX2_search 66 = .ok (.iadd, 1) := by decide +kernel
theorem dX2_search_67 : decode cX2_search 67 = .ok (.iload_n 3, 1) := by decide +kernel
theorem dX2_search_68 : decode cX2_search 68 = .ok (.aload_n 0, 1) := by decide +kernel
theorem dX2_search_69 : decode cX2_search 69 = .ok (.getfield 11, 3) := by decide +kernel
theorem dX2_search_72 : decode cX2_search 72 = .ok (.iload_n 1, 1) := by decide +kernel
theorem dX2_search_73 : decode cX2_search 73 = .ok (.iconst 1, 1) := by decide +kernel
theorem dX2_search_74 : decode cX2_search 74 = .ok (.iadd, 1) := by decide +kernel
theorem dX2_search_75 : decode cX2_search 75 = .ok (.aaload, 1) := by decide +kernel
theorem dX2_search_76 : decode cX2_search 76 = .ok (.getfield 80, 3) := by decide +kernel
theorem dX2_search_79 : decode cX2_search 79 = .ok (.iadd, 1) := by decide +kernel
theorem dX2_search_80 : decode cX2_search 80 = .ok (.invokestatic 66, 3) := by decide +kernel
theorem dX2_search_83 : decode cX2_search 83 = .ok (.iinc 4 1, 3) := by decide +kernel
theorem dX2_search_86 : decode cX2_search 86 = .ok (.goto (-55), 3) := by decide +kernel
theorem dX2_search_89 : decode cX2_search 89 = .ok (.return_, 1) := by decide +kernel
theorem dX2_isAsOrdered_0 : decode cX2_isAsOrdered 0 = .ok (.aload_n 0, 1) := by decide +kernel
theorem dX2_isAsOrdered_1 : decode cX2_isAsOrdered 1 = .ok (.getfield 17, 3) := by decide +kernel
theorem dX2_isAsOrdered_4 : decode cX2_isAsOrdered 4 = .ok (.iload_n 1, 1) := by decide +kernel
theorem dX2_isAsOrdered_5 : decode cX2_isAsOrdered 5 = .ok (.iaload, 1) := by decide +kernel
theorem dX2_isAsOrdered_6 : decode cX2_isAsOrdered 6 = .ok (.iconst (-1), 1) := by decide +kernel
theorem dX2_isAsOrdered_7 : decode cX2_isAsOrdered 7 = .ok (.if_icmp .eq 13, 3) := by decide +kernel
theorem dX2_isAsOrdered_10 : decode cX2_isAsOrdered 10 = .ok (.aload_n 0, 1) := by decide +kernel
theorem dX2_isAsOrdered_11 : decode cX2_isAsOrdered 11 = .ok (.getfield 17, 3) := by decide +kernel
theorem dX2_isAsOrdered_14 : decode cX2_isAsOrdered 14 = .ok (.iload_n 1, 1) := by decide +kernel
theorem dX2_isAsOrdered_15 : decode cX2_isAsOrdered 15 = .ok (.iaload, 1) := by decide +kernel
theorem dX2_isAsOrdered_16 : decode cX2_isAsOrdered 16 = .ok (.iload_n 2, 1) := by decide +kernel
theorem dX2_isAsOrdered_17 : decode cX2_isAsOrdered 17 = .ok (.if_icmp .ne 7, 3) := by decide +kernel
theorem dX2_isAsOrdered_20 : decode cX2_isAsOrdered 20 = .ok (.iconst 1, 1) := by decide +kernel
theorem dX2_isAsOrdered_21 : decode cX2_isAsOrdered 21 = .ok (.goto 4, 3) := by decide +kernel
theorem dX2_isAsOrdered_24 : decode cX2_isAsOrdered 24 = .ok (.iconst 0, 1) := by decide +kernel
theorem dX2_isAsOrdered_25 : decode cX2_isAsOrdered 25 = .ok (.ireturn, 1) := by decide +kernel
theorem dX2_canPass_0 : decode cX2_canPass 0 = .ok (.aload_n 0, 1) := by decide +kernel
theorem dX2_canPass_1 : decode cX2_canPass 1 = .ok (.getfield 11, 3) := by decide +kernel
theorem dX2_canPass_4 : decode cX2_canPass 4 = .ok (.iload_n 1, 1) := by decide +kernel
theorem dX2_canPass_5 : decode cX2_canPass 5 = .ok (.iconst 1, 1) := by decide +kernel
theorem dX2_canPass_6 : decode cX2_canPass 6 = .ok (.iadd, 1) := by decide +kernel
theorem dX2_canPass_7 : decode cX2_canPass 7 = .ok (.aaload, 1) := by decide +kernel
theorem dX2_canPass_8 : decode cX2_canPass 8 = .ok (.astore_n 3, 1) := by decide +kernel
theorem dX2_canPass_9 : decode cX2_canPass 9 = .ok (.aload_n 3, 1) := by decide +kernel
theorem dX2_canPass_10 : decode cX2_canPass 10 = .ok (.aload_n 0, 1) := by decide +kernel
theorem dX2_canPass_11 : decode cX2_canPass 11 = .ok (.getfield 11, 3) := by decide +kernel
theorem dX2_canPass_14 : decode cX2_canPass 14 = .ok (.iload_n 1, 1) := by decide +kernel
theorem dX2_canPass_15 : decode cX2_canPass 15 = .ok (.aaload, 1) := by decide +kernel
theorem dX2_canPass_16 : decode cX2_canPass 16 = .ok (.invokevirtual 33, 3) := by decide +kernel
theorem dX2_canPass_19 : decode cX2_canPass 19 = .ok (.aload_n 3, 1) := by decide +kernel
theorem dX2_canPass_20 : decode cX2_canPass 20 = .ok (.aload_n 0, 1) := by decide +kernel
theorem dX2_canPass_21 : decode cX2_canPass 21 = .ok (.getfield 24, 3) := by decide +kernel
theorem dX2_canPass_24 : decode cX2_canPass 24 = .ok (.aload_n 0, 1) := by decide +kernel
theorem dX2_canPass_25 : decode cX2_canPass 25 = .ok (.getfield 21, 3) := by decide +kernel
theorem dX2_canPass_28 : decode cX2_canPass 28 = .ok (.iload_n 1, 1) := by decide +kernel
theorem dX2_canPass_29 : decode cX2_canPass 29 = .ok (.iaload, 1) := by decide +kernel
theorem dX2_canPass_30 : decode cX2_canPass 30 = .ok (.iload_n 2, 1) := by decide +kernel
theorem dX2_canPass_31 : decode cX2_canPass 31 = .ok (.iconst 1, 1) := by decide +kernel
theorem dX2_canPass_32 : decode cX2_canPass 32 = .ok (.if_icmp .ne 7, 3) := by decide +kernel
theorem dX2_canPass_35 : decode cX2_canPass 35 = .ok (.iconst 1, 1) := by decide +kernel
theorem dX2_canPass_36 : decode cX2_canPass 36 = .ok (.goto 4, 3) := by decide +kernel
theorem dX2_canPass_39 : decode cX2_canPass 39 = .ok (.iconst 0, 1) := by decide +kernel
theorem dX2_canPass_40 : decode cX2_canPass 40 = .ok (.invokevirtual 83, 3) := by decide +kernel
theorem dX2_canPass_43 : decode cX2_canPass 43 = .ok (.aload_n 3, 1) := by decide +kernel
theorem dX2_canPass_44 : decode cX2_canPass 44 = .ok (.getfield 87, 3) := by decide +kernel
theorem dX2_canPass_47 : decode cX2_canPass 47 = .ok (.ifCond .ne 7, 3) := by decide +kernel
theorem dX2_canPass_50 : decode cX2_canPass 50 = .ok (.iconst 1, 1) := by decide +kernel
theorem dX2_canPass_51 : decode cX2_canPass 51 = .ok (.goto 4, 3) := by decide +kernel
theorem dX2_canPass_54 : decode cX2_canPass 54 = .ok (.iconst 0, 1) := by decide +kernel
theorem dX2_canPass_55 : decode cX2_canPass 55 = .ok (.ireturn, 1) := by decide +kernel
theorem dX3_init_0 : decode cX3_init 0 = .ok (.aload_n 0, 1) := by decide +kernel
theorem dX3_init_1 : decode cX3_init 1 = .ok (.invokespecial 3, 3) := by decide +kernel
theorem dX3_init_4 : decode cX3_init 4 = .ok (.aload_n 0, 1) := by decide +kernel
theorem dX3_init_5 : decode cX3_init 5 = .ok (.iconst 4, 1) := by decide +kernel
theorem dX3_init_6 : decode cX3_init 6 = .ok (.newarray .int, 2) := by decide +kernel
theorem dX3_init_8 : decode cX3_init 8 = .ok (.putfield 9, 3) := by decide +kernel
theorem dX3_init_11 : decode cX3_init 11 = .ok (.aload_n 0, 1) := by decide +kernel
theorem dX3_init_12 : decode cX3_init 12 = .ok (.iconst 4, 1) := by decide +kernel
theorem dX3_init_13 : decode cX3_init 13 = .ok (.newarray .int, 2) := by decide +kernel
theorem dX3_init_15 : decode cX3_init 15 = .ok (.putfield 15, 3) := by decide +kernel
theorem dX3_init_18 : decode cX3_init 18 = .ok (.aload_n 0, 1) := by decide +kernel
theorem dX3_init_19 : decode cX3_init 19 = .ok (.iconst 3, 1) := by decide +kernel
theorem dX3_init_20 : decode cX3_init 20 = .ok (.newarray .int, 2) := by decide +kernel
theorem dX3_init_22 : decode cX3_init 22 = .ok (.putfield 18, 3) := by decide +kernel
theorem dX3_init_25 : decode cX3_init 25 = .ok (.aload_n 0, 1) := by decide +kernel
theorem dX3_init_26 : decode cX3_init 26 = .ok (.iconst 3, 1) := by decide +kernel
theorem dX3_init_27 : decode cX3_init 27 = .ok (.bipush 48, 2) := by decide +kernel
theorem dX3_init_29 : decode cX3_init 29 = .ok (.multianewarray 21 2, 4) := by decide +kernel
theorem dX3_init_33 : decode cX3_init 33 = .ok (.putfield 23, 3) := by decide +kernel
theorem dX3_init_36 : decode cX3_init 36 = .ok (.aload_n 0, 1) := by decide +kernel
theorem dX3_init_37 : decode cX3_init 37 = .ok (.bipush 48, 2) := by decide +kernel
theorem dX3_init_39 : decode cX3_init 39 = .ok (.newarray .int, 2) := by decide +kernel
theorem dX3_init_41 : decode cX3_init 41 = .ok (.putfield 26, 3) := by decide +kernel
theorem dX3_init_44 : decode cX3_init 44 = .ok (.aload_n 0, 1) := by decide +kernel
theorem dX3_init_45 : decode cX3_init 45 = .ok (.getfield 26, 3) := by decide +kernel
theorem dX3_init_48 : decode cX3_init 48 = .ok (.iconst 1, 1) := by decide +kernel
theorem dX3_init_49 : decode cX3_init 49 = .ok (.invokestatic 29, 3) := by decide +kernel
theorem dX3_init_52 : decode cX3_init 52 = .ok (.aload_n 0, 1) := by decide +kernel
theorem dX3_init_53 : decode cX3_init 53 = .ok (.bipush 25, 2) := by decide +kernel
theorem dX3_init_55 : decode cX3_init 55 = .ok (.putfield 35, 3) := by decide +kernel
theorem dX3_init_58 : decode cX3_init 58 = .ok (.aload_n 0, 1) := by decide +kernel
theorem dX3_init_59 : decode cX3_init 59 = .ok (.bipush 40, 2) := by decide +kernel
theorem dX3_init_61 : decode cX3_init 61 = .ok (.putfield 39, 3) := by decide +kernel
theorem dX3_init_64 : decode cX3_init 64 = .ok (.return_, 1) := by decide +kernel
theorem dX3_productAt_0 : decode cX3_productAt 0 = .ok (.aload_n 0, 1) := by decide +kernel
theorem dX3_productAt_1 : decode cX3_productAt 1 = .ok (.getfield 15, 3) := by decide +kernel
theorem dX3_productAt_4 : decode cX3_productAt 4 = .ok (.iload_n 1, 1) := by decide +kernel
theorem dX3_productAt_5 : decode cX3_productAt 5 = .ok (.iaload, 1) := by decide +kernel
theorem dX3_productAt_6 : decode cX3_productAt 6 = .ok (.aload_n 0, 1) := by decide +kernel
theorem dX3_productAt_7 : decode cX3_productAt 7 = .ok (.getfield 35, 3) := by decide +kernel
theorem dX3_productAt_10 : decode cX3_productAt 10 = .ok (.if_icmp .ge 5, 3) := by decide +kernel
theorem dX3_productAt_13 : decode cX3_productAt 13 = .ok (.iconst 0, 1) := by decide +kernel
theorem dX3_productAt_14 : decode cX3_productAt 14 = .ok (.ireturn, 1) := by decide +kernel
theorem dX3_productAt_15 : decode cX3_productAt 15 = .ok (.aload_n 0, 1) := by decide +kernel
theorem dX3_productAt_16 : decode cX3_productAt 16 = .ok (.getfield 9, 3) := by decide +kernel
theorem dX3_productAt_19 : decode cX3_productAt 19 = .ok (.iload_n 1, 1) := by decide +kernel
theorem dX3_productAt_20 : decode cX3_productAt 20 = .ok (.iaload, 1) := by decide +kernel
theorem dX3_productAt_21 : decode cX3_productAt 21 = .ok (.aload_n 0, 1) := by decide +kernel
theorem dX3_productAt_22 : decode cX3_productAt 22 = .ok (.getfield 15, 3) := by decide +kernel
theorem dX3_productAt_25 : decode cX3_productAt 25 = .ok (.iload_n 1, 1) := by decide +kernel
theorem dX3_productAt_26 : decode cX3_productAt 26 = .ok (.iaload, 1) := by decide +kernel
theorem dX3_productAt_27 : decode cX3_productAt 27 = .ok (.aload_n 0, 1) := by decide +kernel
theorem dX3_productAt_28 : decode cX3_productAt 28 = .ok (.getfield 35, 3) := by decide +kernel
theorem dX3_productAt_31 : decode cX3_productAt 31 = .ok (.isub, 1) := by decide +kernel
theorem dX3_productAt_32 : decode cX3_productAt 32 = .ok (.imul, 1) := by decide +kernel
theorem dX3_productAt_33 : decode cX3_productAt 33 = .ok (.bipush 100, 2) := by decide +kernel
theorem dX3_productAt_35 : decode cX3_productAt 35 = .ok (.iload_n 2, 1) := by decide +kernel
theorem dX3_productAt_36 : decode cX3_productAt 36 = .ok (.isub, 1) := by decide +kernel
theorem dX3_productAt_37 : decode cX3_productAt 37 = .ok (.imul, 1) := by decide +kernel
theorem dX3_productAt_38 : decode cX3_productAt 38 = .ok (.sipush 500, 3) := by decide +kernel
theorem dX3_productAt_41 : decode cX3_productAt 41 = .ok (.idiv, 1) := by decide +kernel
theorem dX3_productAt_42 : decode cX3_productAt 42 = .ok (.ireturn, 1) := by decide +kernel
theorem dX3_feedFor_0 : decode cX3_feedFor 0 = .ok (.aload_n 0, 1) := by decide +kernel
theorem dX3_feedFor_1 : decode cX3_feedFor 1 = .ok (.getfield 39, 3) := by decide +kernel
theorem dX3_feedFor_4 : decode cX3_feedFor 4 = .ok (.ifCond .gt 5, 3) := by decide +kernel
theorem dX3_feedFor_7 : decode cX3_feedFor 7 = .ok (.iconst 0, 1) := by decide +kernel
theorem dX3_feedFor_8 : decode cX3_feedFor 8 = .ok (.ireturn, 1) := by decide +kernel
theorem dX3_feedFor_9 : decode cX3_feedFor 9 = .ok (.iload_n 1, 1) := by decide +kernel
theorem dX3_feedFor_10 : decode cX3_feedFor 10 = .ok (.bipush 100, 2) := by decide +kernel
theorem dX3_feedFor_12 : decode cX3_feedFor 12 = .ok (.imul, 1) := by decide +kernel
theorem dX3_feedFor_13 : decode cX3_feedFor 13 = .ok (.aload_n 0, 1) := by decide +kernel
theorem dX3_feedFor_14 : decode cX3_feedFor 14 = .ok (.getfield 39, 3) := by decide +kernel
theorem dX3_feedFor_17 : decode cX3_feedFor 17 = .ok (.iadd, 1) := by decide +kernel
theorem dX3_feedFor_18 : decode cX3_feedFor 18 = .ok (.iconst 1, 1) := by decide +kernel
theorem dX3_feedFor_19 : decode cX3_feedFor 19 = .ok (.isub, 1) := by decide +kernel
theorem dX3_feedFor_20 : decode cX3_feedFor 20 = .ok (.aload_n 0, 1) := by decide +kernel
theorem dX3_feedFor_21 : decode cX3_feedFor 21 = .ok (.getfield 39, 3) := by decide +kernel
theorem dX3_feedFor_24 : decode cX3_feedFor 24 = .ok (.idiv, 1) := by decide +kernel
theorem dX3_feedFor_25 : decode cX3_feedFor 25 = .ok (.ireturn, 1) := by decide +kernel
theorem dX3_energyFor_0 : decode cX3_energyFor 0 = .ok (.iload_n 2, 1) := by decide +kernel
theorem dX3_energyFor_1 : decode cX3_energyFor 1 = .ok (.aload_n 0, 1) := by decide +kernel
theorem dX3_energyFor_2 : decode cX3_energyFor 2 = .ok (.getfield 15, 3) := by decide +kernel
theorem dX3_energyFor_5 : decode cX3_energyFor 5 = .ok (.iload_n 1, 1) := by decide +kernel
theorem dX3_energyFor_6 : decode cX3_energyFor 6 = .ok (.iaload, 1) := by decide +kernel
theorem dX3_energyFor_7 : decode cX3_energyFor 7 = .ok (.imul, 1) := by decide +kernel
theorem dX3_energyFor_8 : decode cX3_energyFor 8 = .ok (.bipush 19, 2) := by decide +kernel
theorem dX3_energyFor_10 : decode cX3_energyFor 10 = .ok (.iadd, 1) := by decide +kernel
theorem dX3_energyFor_11 : decode cX3_energyFor 11 = .ok (.bipush 20, 2) := by decide +kernel
theorem dX3_energyFor_13 : decode cX3_energyFor 13 = .ok (.idiv, 1) := by decide +kernel
theorem dX3_energyFor_14 : decode cX3_energyFor 14 = .ok (.ireturn, 1) := by decide +kernel
theorem dX3_foulingStep_0 : decode cX3_foulingStep 0 = .ok (.aload_n 0, 1) := by decide +kernel
theorem dX3_foulingStep_1 : decode cX3_foulingStep 1 = .ok (.getfield 15, 3) := by decide +kernel
theorem dX3_foulingStep_4 : decode cX3_foulingStep 4 = .ok (.iload_n 1, 1) := by decide +kernel
theorem dX3_foulingStep_5 : decode cX3_foulingStep 5 = .ok (.iaload, 1) := by decide +kernel
theorem dX3_foulingStep_6 : decode cX3_foulingStep 6 = .ok (.bipush 45, 2) := by decide +kernel
theorem dX3_foulingStep_8 : decode cX3_foulingStep 8 = .ok (.if_icmp .gt 5, 3) := by decide +kernel
theorem dX3_foulingStep_11 : decode cX3_foulingStep 11 = .ok (.iconst 1, 1) := by decide +kernel
theorem dX3_foulingStep_12 : decode cX3_foulingStep 12 = .ok (.ireturn, 1) := by decide +kernel
theorem dX3_foulingStep_13 : decode cX3_foulingStep 13 = .ok (.aload_n 0, 1) := by decide +kernel
theorem dX3_foulingStep_14 : decode cX3_foulingStep 14 = .ok (.getfield 15, 3) := by decide +kernel
theorem dX3_foulingStep_17 : decode cX3_foulingStep 17 = .ok (.iload_n 1, 1) := by decide +kernel
theorem dX3_foulingStep_18 : decode cX3_foulingStep 18 = .ok (.iaload, 1) := by decide +kernel
theorem dX3_foulingStep_19 : decode cX3_foulingStep 19 = .ok (.bipush 55, 2) := by decide +kernel
theorem dX3_foulingStep_21 : decode cX3_foulingStep 21 = .ok (.if_icmp .gt 7, 3) := by decide +kernel
theorem dX3_foulingStep_24 : decode cX3_foulingStep 24 = .ok (.iconst 2, 1) := by decide +kernel
theorem dX3_foulingStep_25 : decode cX3_foulingStep 25 = .ok (.goto 4, 3) := by decide +kernel
theorem dX3_foulingStep_28 : decode cX3_foulingStep 28 = .ok (.iconst 3, 1) := by decide +kernel
theorem dX3_foulingStep_29 : decode cX3_foulingStep 29 = .ok (.ireturn, 1) := by decide +kernel
theorem dX4_init_0 : decode cX4_init 0 = .ok (.aload_n 0, 1) := by decide +kernel
theorem dX4_init_1 : decode cX4_init 1 = .ok (.invokespecial 3, 3) := by decide +kernel
theorem dX4_init_4 : decode cX4_init 4 = .ok (.aload_n 0, 1) := by decide +kernel
theorem dX4_init_5 : decode cX4_init 5 = .ok (.iconst 4, 1) := by decide +kernel
theorem dX4_init_6 : decode cX4_init 6 = .ok (.newarray .int, 2) := by decide +kernel
theorem dX4_init_8 : decode cX4_init 8 = .ok (.putfield 9, 3) := by decide +kernel
theorem dX4_init_11 : decode cX4_init 11 = .ok (.aload_n 0, 1) := by decide +kernel
theorem dX4_init_12 : decode cX4_init 12 = .ok (.iconst 4, 1) := by decide +kernel
theorem dX4_init_13 : decode cX4_init 13 = .ok (.newarray .int, 2) := by decide +kernel
theorem dX4_init_15 : decode cX4_init 15 = .ok (.putfield 15, 3) := by decide +kernel
theorem dX4_init_18 : decode cX4_init 18 = .ok (.aload_n 0, 1) := by decide +kernel
theorem dX4_init_19 : decode cX4_init 19 = .ok (.iconst 4, 1) := by decide +kernel
theorem dX4_init_20 : decode cX4_init 20 = .ok (.newarray .int, 2) := by decide +kernel
theorem dX4_init_22 : decode cX4_init 22 = .ok (.putfield 18, 3) := by decide +kernel
theorem dX4_init_25 : decode cX4_init 25 = .ok (.aload_n 0, 1) := by decide +kernel
theorem dX4_init_26 : decode cX4_init 26 = .ok (.iconst 3, 1) := by decide +kernel
theorem dX4_init_27 : decode cX4_init 27 = .ok (.newarray .int, 2) := by decide +kernel
theorem dX4_init_29 : decode cX4_init 29 = .ok (.putfield 21, 3) := by decide +kernel
theorem dX4_init_32 : decode cX4_init 32 = .ok (.aload_n 0, 1) := by decide +kernel
theorem dX4_init_33 : decode cX4_init 33 = .ok (.iconst 3, 1) := by decide +kernel
theorem dX4_init_34 : decode cX4_init 34 = .ok (.newarray .int, 2) := by decide +kernel
theorem dX4_init_36 : decode cX4_init 36 = .ok (.putfield 24, 3) := by decide +kernel
theorem dX4_init_39 : decode cX4_init 39 = .ok (.return_, 1) := by decide +kernel
theorem dX4_copy_0 : decode cX4_copy 0 = .ok (.aload_n 1, 1) := by decide +kernel
theorem dX4_copy_1 : decode cX4_copy 1 = .ok (.getfield 9, 3) := by decide +kernel
theorem dX4_copy_4 : decode cX4_copy 4 = .ok (.iconst 0, 1) := by decide +kernel
theorem dX4_copy_5 : decode cX4_copy 5 = .ok (.aload_n 0, 1) := by decide +kernel
theorem dX4_copy_6 : decode cX4_copy 6 = .ok (.getfield 9, 3) := by decide +kernel
theorem dX4_copy_9 : decode cX4_copy 9 = .ok (.iconst 0, 1) := by decide +kernel
theorem dX4_copy_10 : decode cX4_copy 10 = .ok (.iconst 4, 1) := by decide +kernel
theorem dX4_copy_11 : decode cX4_copy 11 = .ok (.invokestatic 27, 3) := by decide +kernel
theorem dX4_copy_14 : decode cX4_copy 14 = .ok (.aload_n 1, 1) := by decide +kernel
theorem dX4_copy_15 : decode cX4_copy 15 = .ok (.getfield 15, 3) := by decide +kernel
theorem dX4_copy_18 : decode cX4_copy 18 = .ok (.iconst 0, 1) := by decide +kernel
theorem dX4_copy_19 : decode cX4_copy 19 = .ok (.aload_n 0, 1) := by decide +kernel
theorem dX4_copy_20 : decode cX4_copy 20 = .ok (.getfield 15, 3) := by decide +kernel
theorem dX4_copy_23 : decode cX4_copy 23 = .ok (.iconst 0, 1) := by decide +kernel
theorem dX4_copy_24 : decode cX4_copy 24 = .ok (.iconst 4, 1) := by decide +kernel
theorem dX4_copy_25 : decode cX4_copy 25 = .ok (.invokestatic 27, 3) := by decide +kernel
theorem dX4_copy_28 : decode cX4_copy 28 = .ok (.aload_n 1, 1) := by decide +kernel
theorem dX4_copy_29 : decode cX4_copy 29 = .ok (.getfield 18, 3) := by decide +kernel
theorem dX4_copy_32 : decode cX4_copy 32 = .ok (.iconst 0, 1) := by decide +kernel
theorem dX4_copy_33 : decode cX4_copy 33 = .ok (.aload_n 0, 1) := by decide +kernel
theorem dX4_copy_34 : decode cX4_copy 34 = .ok (.getfield 18, 3) := by decide +kernel
theorem dX4_copy_37 : decode cX4_copy 37 = .ok (.iconst 0, 1) := by decide +kernel
theorem dX4_copy_38 : decode cX4_copy 38 = .ok (.iconst 4, 1) := by decide +kernel
theorem dX4_copy_39 : decode cX4_copy 39 = .ok (.invokestatic 27, 3) := by decide +kernel
theorem dX4_copy_42 : decode cX4_copy 42 = .ok (.aload_n 1, 1) := by decide +kernel
theorem dX4_copy_43 : decode cX4_copy 43 = .ok (.getfield 21, 3) := by decide +kernel
theorem dX4_copy_46 : decode cX4_copy 46 = .ok (.iconst 0, 1) := by decide +kernel
theorem dX4_copy_47 : decode cX4_copy 47 = .ok (.aload_n 0, 1) := by decide +kernel
theorem dX4_copy_48 : decode cX4_copy 48 = .ok (.getfield 21, 3) := by decide +kernel
theorem dX4_copy_51 : decode cX4_copy 51 = .ok (.iconst 0, 1) := by decide +kernel
theorem dX4_copy_52 : decode cX4_copy 52 = .ok (.iconst 3, 1) := by decide +kernel
theorem dX4_copy_53 : decode cX4_copy 53 = .ok (.invokestatic 27, 3) := by decide +kernel
theorem dX4_copy_56 : decode cX4_copy 56 = .ok (.return_, 1) := by decide +kernel
theorem dX4_letPass_0 : decode cX4_letPass 0 = .ok (.aload_n 0, 1) := by decide +kernel
theorem dX4_letPass_1 : decode cX4_letPass 1 = .ok (.iconst 0, 1) := by decide +kernel
theorem dX4_letPass_2 : decode cX4_letPass 2 = .ok (.putfield 33, 3) := by decide +kernel
theorem dX4_letPass_5 : decode cX4_letPass 5 = .ok (.aload_n 0, 1) := by decide +kernel
theorem dX4_letPass_6 : decode cX4_letPass 6 = .ok (.iconst 0, 1) := by decide +kernel
theorem dX4_letPass_7 : decode cX4_letPass 7 = .ok (.putfield 37, 3) := by decide +kernel
theorem dX4_letPass_10 : decode cX4_letPass 10 = .ok (.aload_n 0, 1) := by decide +kernel
theorem dX4_letPass_11 : decode cX4_letPass 11 = .ok (.iconst 0, 1) := by decide +kernel
theorem dX4_letPass_12 : decode cX4_letPass 12 = .ok (.putfield 40, 3) := by decide +kernel
theorem dX4_letPass_15 : decode cX4_letPass 15 = .ok (.iconst 0, 1) := by decide +kernel
theorem dX4_letPass_16 : decode cX4_letPass 16 = .ok (.istore 4, 2) := by decide +kernel
theorem dX4_letPass_18 : decode cX4_letPass 18 = .ok (.iconst 0, 1) := by decide +kernel
theorem dX4_letPass_19 : decode cX4_letPass 19 = .ok (.istore 5, 2) := by decide +kernel
theorem dX4_letPass_21 : decode cX4_letPass 21 = .ok (.iload 5, 2) := by decide +kernel
theorem dX4_letPass_23 : decode cX4_letPass 23 = .ok (.aload_n 1, 1) := by decide +kernel
theorem dX4_letPass_24 : decode cX4_letPass 24 = .ok (.getfield 43, 3) := by decide +kernel
theorem dX4_letPass_27 : decode cX4_letPass 27 = .ok (.if_icmp .ge 44, 3) := by decide +kernel
theorem dX4_letPass_30 : decode cX4_letPass 30 = .ok (.aload_n 0, 1) := by decide +kernel
theorem dX4_letPass_31 : decode cX4_letPass 31 = .ok (.getfield 18, 3) := by decide +kernel
theorem dX4_letPass_34 : decode cX4_letPass 34 = .ok (.iload 5, 2) := by decide +kernel
theorem dX4_letPass_36 : decode cX4_letPass 36 = .ok (.iaload, 1) := by decide +kernel
theorem dX4_letPass_37 : decode cX4_letPass 37 = .ok (.ifCond .le 12, 3) := by decide +kernel
theorem dX4_letPass_40 : decode cX4_letPass 40 = .ok (.aload_n 0, 1) := by decide +kernel
theorem dX4_letPass_41 : decode cX4_letPass 41 = .ok (.iload 5, 2) := by decide +kernel
theorem dX4_letPass_43 : decode cX4_letPass 43 = .ok (.invokevirtual 48, 3) := by decide +kernel
theorem dX4_letPass_46 : decode cX4_letPass 46 = .ok (.goto 19, 3) := by decide +kernel
theorem dX4_letPass_49 : decode cX4_letPass 49 = .ok (.iload_n 3, 1) := by decide +kernel
theorem dX4_letPass_50 : decode cX4_letPass 50 = .ok (.ifCond .eq 15, 3) := by decide +kernel
theorem dX4_letPass_53 : decode cX4_letPass 53 = .ok (.iload 4, 2) := by decide +kernel
theorem dX4_letPass_55 : decode cX4_letPass 55 = .ok (.aload_n 0, 1) := by decide +kernel
theorem dX4_letPass_56 : decode cX4_letPass 56 = .ok (.aload_n 1, 1) := by decide +kernel
theorem dX4_letPass_57 : decode cX4_letPass 57 = .ok (.iload 5, 2) := by decide +kernel
theorem dX4_letPass_59 : decode cX4_letPass 59 = .ok (.invokevirtual 52, 3) := by decide +kernel
theorem dX4_letPass_62 : decode cX4_letPass 62 = .ok (.iadd, 1) := by decide +kernel
theorem dX4_letPass_63 : decode cX4_letPass 63 = .ok (.istore 4, 2) := by decide +kernel
theorem dX4_letPass_65 : decode cX4_letPass 65 = .ok (.iinc 5 1, 3) := by decide +kernel
theorem dX4_letPass_68 : decode cX4_letPass 68 = .ok (.goto (-47), 3) := by decide +kernel
theorem dX4_letPass_71 : decode cX4_letPass 71 = .ok (.aload_n 0, 1) := by decide +kernel
theorem dX4_letPass_72 : decode cX4_letPass 72 = .ok (.iload 4, 2) := by decide +kernel
theorem dX4_letPass_74 : decode cX4_letPass 74 = .ok (.aload_n 1, 1) := by decide +kernel
theorem dX4_letPass_75 : decode cX4_letPass 75 = .ok (.getfield 56, 3) := by decide +kernel
theorem dX4_letPass_78 : decode cX4_letPass 78 = .ok (.iload_n 2, 1) := by decide +kernel
theorem dX4_letPass_79 : decode cX4_letPass 79 = .ok (.iaload, 1) := by decide +kernel
theorem dX4_letPass_80 : decode cX4_letPass 80 = .ok (.imul, 1) := by decide +kernel
theorem dX4_letPass_81 : decode cX4_letPass 81 = .ok (.putfield 59, 3) := by decide +kernel
theorem dX4_letPass_84 : decode cX4_letPass 84 = .ok (.aload_n 0, 1) := by decide +kernel
theorem dX4_letPass_85 : decode cX4_letPass 85 = .ok (.aload_n 1, 1) := by decide +kernel
theorem dX4_letPass_86 : decode cX4_letPass 86 = .ok (.invokevirtual 62, 3) := by decide +kernel
theorem dX4_letPass_89 : decode cX4_letPass 89 = .ok (.aload_n 0, 1) := by decide +kernel
theorem dX4_letPass_90 : decode cX4_letPass 90 = .ok (.aload_n 1, 1) := by decide +kernel
theorem dX4_letPass_91 : decode cX4_letPass 91 = .ok (.iload_n 2, 1) := by decide +kernel
theorem dX4_letPass_92 : decode cX4_letPass 92 = .ok (.invokevirtual 66, 3) := by decide +kernel
theorem dX4_letPass_95 : decode cX4_letPass 95 = .ok (.return_, 1) := by decide +kernel
theorem dX4_goOnCleaning_0 : decode cX4_goOnCleaning 0 = .ok (.aload_n 0, 1) := by decide +kernel
theorem dX4_goOnCleaning_1 : decode cX4_goOnCleaning 1 = .ok (.getfield 18, 3) := by decide +kernel
theorem dX4_goOnCleaning_4 : decode cX4_goOnCleaning 4 = .ok (.iload_n 1, 1) := by decide +kernel
theorem dX4_goOnCleaning_5 : decode cX4_goOnCleaning 5 = .ok (.dup2, 1) := by decide +kernel
theorem dX4_goOnCleaning_6 : decode cX4_goOnCleaning 6 = .ok (.iaload, 1) := by decide +kernel
theorem dX4_goOnCleaning_7 : decode cX4_goOnCleaning 7 = .ok (.iconst 1, 1) := by decide +kernel
theorem dX4_goOnCleaning_8 : decode cX4_goOnCleaning 8 = .ok (.isub, 1) := by decide +kernel
theorem dX4_goOnCleaning_9 : decode cX4_goOnCleaning 9 = .ok (.iastore, 1) := by decide +kernel
theorem dX4_goOnCleaning_10 : decode cX4_goOnCleaning 10 = .ok (.aload_n 0, 1) := by decide +kernel
theorem dX4_goOnCleaning_11 : decode cX4_goOnCleaning 11 = .ok (.getfield 18, 3) := by decide +kernel
theorem dX4_goOnCleaning_14 : decode cX4_goOnCleaning 14 = .ok (.iload_n 1, 1) := by decide +kernel
theorem dX4_goOnCleaning_15 : decode cX4_goOnCleaning 15 = .ok (.iaload, 1) := by decide +kernel
theorem dX4_goOnCleaning_16 : decode cX4_goOnCleaning 16 = .ok (.ifCond .ne 43, 3) := by decide +kernel
theorem dX4_goOnCleaning_19 : decode cX4_goOnCleaning 19 = .ok (.aload_n 0, 1) := by decide +kernel
theorem dX4_goOnCleaning_20 : decode cX4_goOnCleaning 20 = .ok (.getfield 9, 3) := by decide +kernel
theorem dX4_goOnCleaning_23 : decode cX4_goOnCleaning 23 = .ok (.iload_n 1, 1) := by decide +kernel
theorem dX4_goOnCleaning_24 : decode cX4_goOnCleaning 24 = .ok (.aload_n 0, 1) := by decide +kernel
theorem dX4_goOnCleaning_25 : decode cX4_goOnCleaning 25 = .ok (.getfield 9, 3) := by decide +kernel
theorem dX4_goOnCleaning_28 : decode cX4_goOnCleaning 28 = .ok (.iload_n 1, 1) := by decide +kernel
theorem dX4_goOnCleaning_29 : decode cX4_goOnCleaning 29 = .ok (.iaload, 1) := by decide +kernel
theorem dX4_goOnCleaning_30 : decode cX4_goOnCleaning 30 = .ok (.iconst 4, 1) := by decide +kernel
theorem dX4_goOnCleaning_31 : decode cX4_goOnCleaning 31 = .ok (.idiv, 1) := by decide +kernel
theorem dX4_goOnCleaning_32 : decode cX4_goOnCleaning 32 = .ok (.aload_n 0, 1) := by decide +kernel
theorem dX4_goOnCleaning_33 : decode cX4_goOnCleaning 33 = .ok (.getfield 15, 3) := by decide +kernel
theorem dX4_goOnCleaning_36 : decode cX4_goOnCleaning 36 = .ok (.iload_n 1, 1) := by decide +kernel
theorem dX4_goOnCleaning_37 : decode cX4_goOnCleaning 37 = .ok (.iaload, 1) := by decide +kernel
theorem dX4_goOnCleaning_38 : decode cX4_goOnCleaning 38 = .ok (.iadd, 1) := by decide +kernel
theorem dX4_goOnCleaning_39 : decode cX4_goOnCleaning 39 = .ok (.iastore, 1) := by decide +kernel
theorem dX4_goOnCleaning_40 : decode cX4_goOnCleaning 40 = .ok (.aload_n 0, 1) := by decide +kernel
theorem dX4_goOnCleaning_41 : decode cX4_goOnCleaning 41 = .ok (.getfield 15, 3) := by decide +kernel
theorem dX4_goOnCleaning_44 : decode cX4_goOnCleaning 44 = .ok (.iload_n 1, 1) := by decide +kernel
theorem dX4_goOnCleaning_45 : decode cX4_goOnCleaning 45 = .ok (.bipush 20, 2) := by decide +kernel
theorem dX4_goOnCleaning_47 : decode cX4_goOnCleaning 47 = .ok (.aload_n 0, 1) := by decide +kernel
theorem dX4_goOnCleaning_48 : decode cX4_goOnCleaning 48 = .ok (.getfield 15, 3) := by decide +kernel
theorem dX4_goOnCleaning_51 : decode cX4_goOnCleaning 51 = .ok (.iload_n 1, 1) := by decide +kernel
theorem dX4_goOnCleaning_52 : decode cX4_goOnCleaning 52 = .ok (.iaload, 1) := by decide +kernel
theorem dX4_goOnCleaning_53 : decode cX4_goOnCleaning 53 = .ok (.iconst 1, 1) := by decide +kernel
theorem dX4_goOnCleaning_54 : decode cX4_goOnCleaning 54 = .ok (.iadd, 1) := by decide +kernel
theorem dX4_goOnCleaning_55 : decode cX4_goOnCleaning 55 = .ok (.invokestatic 70, 3) := by decide +kernel
theorem dX4_goOnCleaning_58 : decode cX4_goOnCleaning 58 = .ok (.iastore, 1) := by decide +kernel
theorem dX4_goOnCleaning_59 : decode cX4_goOnCleaning 59 = .ok (.return_, 1) := by decide +kernel
theorem dX4_runTrain_0 : decode cX4_runTrain 0 = .ok (.aload_n 1, 1) := by decide +kernel
theorem dX4_runTrain_1 : decode cX4_runTrain 1 = .ok (.iload_n 2, 1) := by decide +kernel
theorem dX4_runTrain_2 : decode cX4_runTrain 2 = .ok (.aload_n 0, 1) := by decide +kernel
theorem dX4_runTrain_3 : decode cX4_runTrain 3 = .ok (.getfield 9, 3) := by decide +kernel
theorem dX4_runTrain_6 : decode cX4_runTrain 6 = .ok (.iload_n 2, 1) := by decide +kernel
theorem dX4_runTrain_7 : decode cX4_runTrain 7 = .ok (.iaload, 1) := by decide +kernel
theorem dX4_runTrain_8 : decode cX4_runTrain 8 = .ok (.invokevirtual 76, 3) := by decide +kernel
theorem dX4_runTrain_11 : decode cX4_runTrain 11 = .ok (.istore_n 3, 1) := by decide +kernel
theorem dX4_runTrain_12 : decode cX4_runTrain 12 = .ok (.aload_n 1, 1) := by decide +kernel
theorem dX4_runTrain_13 : decode cX4_runTrain 13 = .ok (.iload_n 3, 1) := by decide +kernel
theorem dX4_runTrain_14 : decode cX4_runTrain 14 = .ok (.invokevirtual 79, 3) := by decide +kernel
theorem dX4_runTrain_17 : decode cX4_runTrain 17 = .ok (.istore 4, 2) := by decide +kernel
theorem dX4_runTrain_19 : decode cX4_runTrain 19 = .ok (.aload_n 0, 1) := by decide +kernel
end
section
theorem dX4_runTrain_20 : decode cX4_runTrain 20 = .ok (.dup, 1) := by decide +kernel
theorem dX4_runTrain_21 : decode cX4_runTrain 21 = .ok (.getfield 33, 3) := by decide +kernel
theorem dX4_runTrain_24 : decode cX4_runTrain 24 = .ok (.iload_n 3, 1) := by decide +kernel
theorem dX4_runTrain_25 : decode cX4_runTrain 25 = .ok (.iadd, 1) := by decide +kernel
theorem dX4_runTrain_26 : decode cX4_runTrain 26 = .ok (.putfield 33, 3) := by decide +kernel
theorem dX4_runTrain_29 : decode cX4_runTrain 29 = .ok (.aload_n 0, 1) := by decide +kernel
theorem dX4_runTrain_30 : decode cX4_runTrain 30 = .ok (.dup, 1) := by decide +kernel
theorem dX4_runTrain_31 : decode cX4_runTrain 31 = .ok (.getfield 37, 3) := by decide +kernel
theorem dX4_runTrain_34 : decode cX4_runTrain 34 = .ok (.iload 4, 2) := by decide +kernel
theorem dX4_runTrain_36 : decode cX4_runTrain 36 = .ok (.iadd, 1) := by decide +kernel
theorem dX4_runTrain_37 : decode cX4_runTrain 37 = .ok (.putfield 37, 3) := by decide +kernel
theorem dX4_runTrain_40 : decode cX4_runTrain 40 = .ok (.aload_n 0, 1) := by decide +kernel
theorem dX4_runTrain_41 : decode cX4_runTrain 41 = .ok (.dup, 1) := by decide +kernel
theorem dX4_runTrain_42 : decode cX4_runTrain 42 = .ok (.getfield 40, 3) := by decide +kernel
theorem dX4_runTrain_45 : decode cX4_runTrain 45 = .ok (.iload 4, 2) := by decide +kernel
theorem dX4_runTrain_47 : decode cX4_runTrain 47 = .ok (.iload_n 3, 1) := by decide +kernel
theorem dX4_runTrain_48 : decode cX4_runTrain 48 = .ok (.isub, 1) := by decide +kernel
theorem dX4_runTrain_49 : decode cX4_runTrain 49 = .ok (.iadd, 1) := by decide +kernel
theorem dX4_runTrain_50 : decode cX4_runTrain 50 = .ok (.putfield 40, 3) := by decide +kernel
theorem dX4_runTrain_53 : decode cX4_runTrain 53 = .ok (.aload_n 0, 1) := by decide +kernel
theorem dX4_runTrain_54 : decode cX4_runTrain 54 = .ok (.getfield 9, 3) := by decide +kernel
theorem dX4_runTrain_57 : decode cX4_runTrain 57 = .ok (.iload_n 2, 1) := by decide +kernel
theorem dX4_runTrain_58 : decode cX4_runTrain 58 = .ok (.bipush 90, 2) := by decide +kernel
theorem dX4_runTrain_60 : decode cX4_runTrain 60 = .ok (.aload_n 0, 1) := by decide +kernel
theorem dX4_runTrain_61 : decode cX4_runTrain 61 = .ok (.getfield 9, 3) := by decide +kernel
theorem dX4_runTrain_64 : decode cX4_runTrain 64 = .ok (.iload_n 2, 1) := by decide +kernel
theorem dX4_runTrain_65 : decode cX4_runTrain 65 = .ok (.iaload, 1) := by decide +kernel
theorem dX4_runTrain_66 : decode cX4_runTrain 66 = .ok (.aload_n 1, 1) := by decide +kernel
theorem dX4_runTrain_67 : decode cX4_runTrain 67 = .ok (.iload_n 2, 1) := by decide +kernel
theorem dX4_runTrain_68 : decode cX4_runTrain 68 = .ok (.invokevirtual 83, 3) := by decide +kernel
theorem dX4_runTrain_71 : decode cX4_runTrain 71 = .ok (.iadd, 1) := by decide +kernel
theorem dX4_runTrain_72 : decode cX4_runTrain 72 = .ok (.invokestatic 70, 3) := by decide +kernel
theorem dX4_runTrain_75 : decode cX4_runTrain 75 = .ok (.iastore, 1) := by decide +kernel
theorem dX4_runTrain_76 : decode cX4_runTrain 76 = .ok (.aload_n 1, 1) := by decide +kernel
theorem dX4_runTrain_77 : decode cX4_runTrain 77 = .ok (.iload_n 2, 1) := by decide +kernel
theorem dX4_runTrain_78 : decode cX4_runTrain 78 = .ok (.iload 4, 2) := by decide +kernel
theorem dX4_runTrain_80 : decode cX4_runTrain 80 = .ok (.invokevirtual 86, 3) := by decide +kernel
theorem dX4_runTrain_83 : decode cX4_runTrain 83 = .ok (.ireturn, 1) := by decide +kernel
theorem dX4_pour_0 : decode cX4_pour 0 = .ok (.aload_n 0, 1) := by decide +kernel
theorem dX4_pour_1 : decode cX4_pour 1 = .ok (.getfield 33, 3) := by decide +kernel
theorem dX4_pour_4 : decode cX4_pour 4 = .ok (.istore_n 2, 1) := by decide +kernel
theorem dX4_pour_5 : decode cX4_pour 5 = .ok (.iconst 0, 1) := by decide +kernel
theorem dX4_pour_6 : decode cX4_pour 6 = .ok (.istore_n 3, 1) := by decide +kernel
theorem dX4_pour_7 : decode cX4_pour 7 = .ok (.iload_n 3, 1) := by decide +kernel
theorem dX4_pour_8 : decode cX4_pour 8 = .ok (.aload_n 1, 1) := by decide +kernel
theorem dX4_pour_9 : decode cX4_pour 9 = .ok (.getfield 89, 3) := by decide +kernel
theorem dX4_pour_12 : decode cX4_pour 12 = .ok (.if_icmp .ge 44, 3) := by decide +kernel
theorem dX4_pour_15 : decode cX4_pour 15 = .ok (.iload_n 2, 1) := by decide +kernel
theorem dX4_pour_16 : decode cX4_pour 16 = .ok (.aload_n 1, 1) := by decide +kernel
theorem dX4_pour_17 : decode cX4_pour 17 = .ok (.getfield 92, 3) := by decide +kernel
theorem dX4_pour_20 : decode cX4_pour 20 = .ok (.iload_n 3, 1) := by decide +kernel
theorem dX4_pour_21 : decode cX4_pour 21 = .ok (.iaload, 1) := by decide +kernel
theorem dX4_pour_22 : decode cX4_pour 22 = .ok (.aload_n 0, 1) := by decide +kernel
theorem dX4_pour_23 : decode cX4_pour 23 = .ok (.getfield 21, 3) := by decide +kernel
theorem dX4_pour_26 : decode cX4_pour 26 = .ok (.iload_n 3, 1) := by decide +kernel
theorem dX4_pour_27 : decode cX4_pour 27 = .ok (.iaload, 1) := by decide +kernel
theorem dX4_pour_28 : decode cX4_pour 28 = .ok (.isub, 1) := by decide +kernel
theorem dX4_pour_29 : decode cX4_pour 29 = .ok (.invokestatic 70, 3) := by decide +kernel
theorem dX4_pour_32 : decode cX4_pour 32 = .ok (.istore 4, 2) := by decide +kernel
theorem dX4_pour_34 : decode cX4_pour 34 = .ok (.aload_n 0, 1) := by decide +kernel
theorem dX4_pour_35 : decode cX4_pour 35 = .ok (.getfield 21, 3) := by decide +kernel
theorem dX4_pour_38 : decode cX4_pour 38 = .ok (.iload_n 3, 1) := by decide +kernel
theorem dX4_pour_39 : decode cX4_pour 39 = .ok (.dup2, 1) := by decide +kernel
theorem dX4_pour_40 : decode cX4_pour 40 = .ok (.iaload, 1) := by decide +kernel
theorem dX4_pour_41 : decode cX4_pour 41 = .ok (.iload 4, 2) := by decide +kernel
theorem dX4_pour_43 : decode cX4_pour 43 = .ok (.iadd, 1) := by decide +kernel
theorem dX4_pour_44 : decode cX4_pour 44 = .ok (.iastore, 1) := by decide +kernel
theorem dX4_pour_45 : decode cX4_pour 45 = .ok (.iload_n 2, 1) := by decide +kernel
theorem dX4_pour_46 : decode cX4_pour 46 = .ok (.iload 4, 2) := by decide +kernel
theorem dX4_pour_48 : decode cX4_pour 48 = .ok (.isub, 1) := by decide +kernel
theorem dX4_pour_49 : decode cX4_pour 49 = .ok (.istore_n 2, 1) := by decide +kernel
theorem dX4_pour_50 : decode cX4_pour 50 = .ok (.iinc 3 1, 3) := by decide +kernel
theorem dX4_pour_53 : decode cX4_pour 53 = .ok (.goto (-46), 3) := by decide +kernel
theorem dX4_pour_56 : decode cX4_pour 56 = .ok (.aload_n 0, 1) := by decide +kernel
theorem dX4_pour_57 : decode cX4_pour 57 = .ok (.iload_n 2, 1) := by decide +kernel
theorem dX4_pour_58 : decode cX4_pour 58 = .ok (.putfield 95, 3) := by decide +kernel
theorem dX4_pour_61 : decode cX4_pour 61 = .ok (.return_, 1) := by decide +kernel
theorem dX4_serve_0 : decode cX4_serve 0 = .ok (.aload_n 0, 1) := by decide +kernel
theorem dX4_serve_1 : decode cX4_serve 1 = .ok (.iconst 0, 1) := by decide +kernel
theorem dX4_serve_2 : decode cX4_serve 2 = .ok (.putfield 98, 3) := by decide +kernel
theorem dX4_serve_5 : decode cX4_serve 5 = .ok (.aload_n 0, 1) := by decide +kernel
theorem dX4_serve_6 : decode cX4_serve 6 = .ok (.iconst 0, 1) := by decide +kernel
theorem dX4_serve_7 : decode cX4_serve 7 = .ok (.putfield 101, 3) := by decide +kernel
theorem dX4_serve_10 : decode cX4_serve 10 = .ok (.iconst 0, 1) := by decide +kernel
theorem dX4_serve_11 : decode cX4_serve 11 = .ok (.istore_n 3, 1) := by decide +kernel
theorem dX4_serve_12 : decode cX4_serve 12 = .ok (.iload_n 3, 1) := by decide +kernel
theorem dX4_serve_13 : decode cX4_serve 13 = .ok (.aload_n 1, 1) := by decide +kernel
theorem dX4_serve_14 : decode cX4_serve 14 = .ok (.getfield 89, 3) := by decide +kernel
theorem dX4_serve_17 : decode cX4_serve 17 = .ok (.if_icmp .ge 76, 3) := by decide +kernel
theorem dX4_serve_20 : decode cX4_serve 20 = .ok (.aload_n 1, 1) := by decide +kernel
theorem dX4_serve_21 : decode cX4_serve 21 = .ok (.getfield 104, 3) := by decide +kernel
theorem dX4_serve_24 : decode cX4_serve 24 = .ok (.iload_n 3, 1) := by decide +kernel
theorem dX4_serve_25 : decode cX4_serve 25 = .ok (.aaload, 1) := by decide +kernel
theorem dX4_serve_26 : decode cX4_serve 26 = .ok (.iload_n 2, 1) := by decide +kernel
theorem dX4_serve_27 : decode cX4_serve 27 = .ok (.iaload, 1) := by decide +kernel
theorem dX4_serve_28 : decode cX4_serve 28 = .ok (.istore 4, 2) := by decide +kernel
theorem dX4_serve_30 : decode cX4_serve 30 = .ok (.iload 4, 2) := by decide +kernel
theorem dX4_serve_32 : decode cX4_serve 32 = .ok (.aload_n 0, 1) := by decide +kernel
theorem dX4_serve_33 : decode cX4_serve 33 = .ok (.getfield 21, 3) := by decide +kernel
theorem dX4_serve_36 : decode cX4_serve 36 = .ok (.iload_n 3, 1) := by decide +kernel
theorem dX4_serve_37 : decode cX4_serve 37 = .ok (.iaload, 1) := by decide +kernel
theorem dX4_serve_38 : decode cX4_serve 38 = .ok (.invokestatic 70, 3) := by decide +kernel
theorem dX4_serve_41 : decode cX4_serve 41 = .ok (.istore 5, 2) := by decide +kernel
theorem dX4_serve_43 : decode cX4_serve 43 = .ok (.aload_n 0, 1) := by decide +kernel
theorem dX4_serve_44 : decode cX4_serve 44 = .ok (.getfield 21, 3) := by decide +kernel
theorem dX4_serve_47 : decode cX4_serve 47 = .ok (.iload_n 3, 1) := by decide +kernel
theorem dX4_serve_48 : decode cX4_serve 48 = .ok (.dup2, 1) := by decide +kernel
theorem dX4_serve_49 : decode cX4_serve 49 = .ok (.iaload, 1) := by decide +kernel
theorem dX4_serve_50 : decode cX4_serve 50 = .ok (.iload 5, 2) := by decide +kernel
theorem dX4_serve_52 : decode cX4_serve 52 = .ok (.isub, 1) := by decide +kernel
theorem dX4_serve_53 : decode cX4_serve 53 = .ok (.iastore, 1) := by decide +kernel
theorem dX4_serve_54 : decode cX4_serve 54 = .ok (.aload_n 0, 1) := by decide +kernel
theorem dX4_serve_55 : decode cX4_serve 55 = .ok (.getfield 24, 3) := by decide +kernel
theorem dX4_serve_58 : decode cX4_serve 58 = .ok (.iload_n 3, 1) := by decide +kernel
theorem dX4_serve_59 : decode cX4_serve 59 = .ok (.iload 4, 2) := by decide +kernel
theorem dX4_serve_61 : decode cX4_serve 61 = .ok (.iload 5, 2) := by decide +kernel
theorem dX4_serve_63 : decode cX4_serve 63 = .ok (.isub, 1) := by decide +kernel
theorem dX4_serve_64 : decode cX4_serve 64 = .ok (.iastore, 1) := by decide +kernel
theorem dX4_serve_65 : decode cX4_serve 65 = .ok (.aload_n 0, 1) := by decide +kernel
theorem dX4_serve_66 : decode cX4_serve 66 = .ok (.dup, 1) := by decide +kernel
theorem dX4_serve_67 : decode cX4_serve 67 = .ok (.getfield 98, 3) := by decide +kernel
theorem dX4_serve_70 : decode cX4_serve 70 = .ok (.iload 5, 2) := by decide +kernel
theorem dX4_serve_72 : decode cX4_serve 72 = .ok (.iadd, 1) := by decide +kernel
theorem dX4_serve_73 : decode cX4_serve 73 = .ok (.putfield 98, 3) := by decide +kernel
theorem dX4_serve_76 : decode cX4_serve 76 = .ok (.aload_n 0, 1) := by decide +kernel
theorem dX4_serve_77 : decode cX4_serve 77 = .ok (.dup, 1) := by decide +kernel
theorem dX4_serve_78 : decode cX4_serve 78 = .ok (.getfield 101, 3) := by decide +kernel
theorem dX4_serve_81 : decode cX4_serve 81 = .ok (.iload 4, 2) := by decide +kernel
theorem dX4_serve_83 : decode cX4_serve 83 = .ok (.iadd, 1) := by decide +kernel
theorem dX4_serve_84 : decode cX4_serve 84 = .ok (.putfield 101, 3) := by decide +kernel
theorem dX4_serve_87 : decode cX4_serve 87 = .ok (.iinc 3 1, 3) := by decide +kernel
theorem dX4_serve_90 : decode cX4_serve 90 = .ok (.goto (-78), 3) := by decide +kernel
theorem dX4_serve_93 : decode cX4_serve 93 = .ok (.aload_n 0, 1) := by decide +kernel
theorem dX4_serve_94 : decode cX4_serve 94 = .ok (.aload_n 0, 1) := by decide +kernel
theorem dX4_serve_95 : decode cX4_serve 95 = .ok (.getfield 101, 3) := by decide +kernel
theorem dX4_serve_98 : decode cX4_serve 98 = .ok (.aload_n 0, 1) := by decide +kernel
theorem dX4_serve_99 : decode cX4_serve 99 = .ok (.getfield 98, 3) := by decide +kernel
theorem dX4_serve_102 : decode cX4_serve 102 = .ok (.isub, 1) := by decide +kernel
theorem dX4_serve_103 : decode cX4_serve 103 = .ok (.putfield 108, 3) := by decide +kernel
theorem dX4_serve_106 : decode cX4_serve 106 = .ok (.return_, 1) := by decide +kernel
theorem dX5_init_0 : decode cX5_init 0 = .ok (.aload_n 0, 1) := by decide +kernel
theorem dX5_init_1 : decode cX5_init 1 = .ok (.invokespecial 1, 3) := by decide +kernel
theorem dX5_init_4 : decode cX5_init 4 = .ok (.aload_n 0, 1) := by decide +kernel
theorem dX5_init_5 : decode cX5_init 5 = .ok (.new 7, 3) := by decide +kernel
theorem dX5_init_8 : decode cX5_init 8 = .ok (.dup, 1) := by decide +kernel
theorem dX5_init_9 : decode cX5_init 9 = .ok (.invokespecial 9, 3) := by decide +kernel
theorem dX5_init_12 : decode cX5_init 12 = .ok (.putfield 10, 3) := by decide +kernel
theorem dX5_init_15 : decode cX5_init 15 = .ok (.aload_n 0, 1) := by decide +kernel
theorem dX5_init_16 : decode cX5_init 16 = .ok (.new 16, 3) := by decide +kernel
theorem dX5_init_19 : decode cX5_init 19 = .ok (.dup, 1) := by decide +kernel
theorem dX5_init_20 : decode cX5_init 20 = .ok (.invokespecial 18, 3) := by decide +kernel
theorem dX5_init_23 : decode cX5_init 23 = .ok (.putfield 19, 3) := by decide +kernel
theorem dX5_init_26 : decode cX5_init 26 = .ok (.aload_n 0, 1) := by decide +kernel
theorem dX5_init_27 : decode cX5_init 27 = .ok (.new 23, 3) := by decide +kernel
theorem dX5_init_30 : decode cX5_init 30 = .ok (.dup, 1) := by decide +kernel
theorem dX5_init_31 : decode cX5_init 31 = .ok (.invokespecial 25, 3) := by decide +kernel
theorem dX5_init_34 : decode cX5_init 34 = .ok (.putfield 26, 3) := by decide +kernel
theorem dX5_init_37 : decode cX5_init 37 = .ok (.aload_n 0, 1) := by decide +kernel
theorem dX5_init_38 : decode cX5_init 38 = .ok (.new 30, 3) := by decide +kernel
theorem dX5_init_41 : decode cX5_init 41 = .ok (.dup, 1) := by decide +kernel
theorem dX5_init_42 : decode cX5_init 42 = .ok (.aload_n 0, 1) := by decide +kernel
theorem dX5_init_43 : decode cX5_init 43 = .ok (.getfield 10, 3) := by decide +kernel
theorem dX5_init_46 : decode cX5_init 46 = .ok (.aload_n 0, 1) := by decide +kernel
theorem dX5_init_47 : decode cX5_init 47 = .ok (.getfield 26, 3) := by decide +kernel
theorem dX5_init_50 : decode cX5_init 50 = .ok (.invokespecial 32, 3) := by decide +kernel
theorem dX5_init_53 : decode cX5_init 53 = .ok (.putfield 35, 3) := by decide +kernel
theorem dX5_init_56 : decode cX5_init 56 = .ok (.aload_n 0, 1) := by decide +kernel
theorem dX5_init_57 : decode cX5_init 57 = .ok (.new 39, 3) := by decide +kernel
theorem dX5_init_60 : decode cX5_init 60 = .ok (.dup, 1) := by decide +kernel
theorem dX5_init_61 : decode cX5_init 61 = .ok (.invokespecial 41, 3) := by decide +kernel
theorem dX5_init_64 : decode cX5_init 64 = .ok (.putfield 42, 3) := by decide +kernel
theorem dX5_init_67 : decode cX5_init 67 = .ok (.aload_n 0, 1) := by decide +kernel
theorem dX5_init_68 : decode cX5_init 68 = .ok (.iconst 4, 1) := by decide +kernel
theorem dX5_init_69 : decode cX5_init 69 = .ok (.putfield 46, 3) := by decide +kernel
theorem dX5_init_72 : decode cX5_init 72 = .ok (.aload_n 0, 1) := by decide +kernel
theorem dX5_init_73 : decode cX5_init 73 = .ok (.iconst 0, 1) := by decide +kernel
theorem dX5_init_74 : decode cX5_init 74 = .ok (.putfield 50, 3) := by decide +kernel
theorem dX5_init_77 : decode cX5_init 77 = .ok (.return_, 1) := by decide +kernel
theorem dX5_addTrain_0 : decode cX5_addTrain 0 = .ok (.iload_n 1, 1) := by decide +kernel
theorem dX5_addTrain_1 : decode cX5_addTrain 1 = .ok (.iconst 1, 1) := by decide +kernel
theorem dX5_addTrain_2 : decode cX5_addTrain 2 = .ok (.bipush 20, 2) := by decide +kernel
theorem dX5_addTrain_4 : decode cX5_addTrain 4 = .ok (.invokestatic 53, 3) := by decide +kernel
theorem dX5_addTrain_7 : decode cX5_addTrain 7 = .ok (.aload_n 0, 1) := by decide +kernel
theorem dX5_addTrain_8 : decode cX5_addTrain 8 = .ok (.getfield 10, 3) := by decide +kernel
theorem dX5_addTrain_11 : decode cX5_addTrain 11 = .ok (.getfield 57, 3) := by decide +kernel
theorem dX5_addTrain_14 : decode cX5_addTrain 14 = .ok (.iconst 4, 1) := by decide +kernel
theorem dX5_addTrain_15 : decode cX5_addTrain 15 = .ok (.if_icmp .lt 13, 3) := by decide +kernel
theorem dX5_addTrain_18 : decode cX5_addTrain 18 = .ok (.new 60, 3) := by decide +kernel
theorem dX5_addTrain_21 : decode cX5_addTrain 21 = .ok (.dup, 1) := by decide +kernel
theorem dX5_addTrain_22 : decode cX5_addTrain 22 = .ok (.ldc 62, 2) := by decide +kernel
theorem dX5_addTrain_24 : decode cX5_addTrain 24 = .ok (.invokespecial 64, 3) := by decide +kernel
theorem dX5_addTrain_27 : decode cX5_addTrain 27 = .ok (.athrow, 1) := by decide +kernel
theorem dX5_addTrain_28 : decode cX5_addTrain 28 = .ok (.aload_n 0, 1) := by decide +kernel
theorem dX5_addTrain_29 : decode cX5_addTrain 29 = .ok (.getfield 10, 3) := by decide +kernel
theorem dX5_addTrain_32 : decode cX5_addTrain 32 = .ok (.getfield 57, 3) := by decide +kernel
theorem dX5_addTrain_35 : decode cX5_addTrain 35 = .ok (.istore_n 2, 1) := by decide +kernel
theorem dX5_addTrain_36 : decode cX5_addTrain 36 = .ok (.aload_n 0, 1) := by decide +kernel
theorem dX5_addTrain_37 : decode cX5_addTrain 37 = .ok (.getfield 10, 3) := by decide +kernel
theorem dX5_addTrain_40 : decode cX5_addTrain 40 = .ok (.getfield 67, 3) := by decide +kernel
theorem dX5_addTrain_43 : decode cX5_addTrain 43 = .ok (.iload_n 2, 1) := by decide +kernel
theorem dX5_addTrain_44 : decode cX5_addTrain 44 = .ok (.iload_n 1, 1) := by decide +kernel
theorem dX5_addTrain_45 : decode cX5_addTrain 45 = .ok (.iastore, 1) := by decide +kernel
theorem dX5_addTrain_46 : decode cX5_addTrain 46 = .ok (.aload_n 0, 1) := by decide +kernel
theorem dX5_addTrain_47 : decode cX5_addTrain 47 = .ok (.getfield 10, 3) := by decide +kernel
theorem dX5_addTrain_50 : decode cX5_addTrain 50 = .ok (.getfield 71, 3) := by decide +kernel
theorem dX5_addTrain_53 : decode cX5_addTrain 53 = .ok (.iload_n 2, 1) := by decide +kernel
theorem dX5_addTrain_54 : decode cX5_addTrain 54 = .ok (.bipush 50, 2) := by decide +kernel
theorem dX5_addTrain_56 : decode cX5_addTrain 56 = .ok (.iastore, 1) := by decide +kernel
theorem dX5_addTrain_57 : decode cX5_addTrain 57 = .ok (.aload_n 0, 1) := by decide +kernel
theorem dX5_addTrain_58 : decode cX5_addTrain 58 = .ok (.getfield 10, 3) := by decide +kernel
theorem dX5_addTrain_61 : decode cX5_addTrain 61 = .ok (.iload_n 2, 1) := by decide +kernel
theorem dX5_addTrain_62 : decode cX5_addTrain 62 = .ok (.iconst 1, 1) := by decide +kernel
theorem dX5_addTrain_63 : decode cX5_addTrain 63 = .ok (.iadd, 1) := by decide +kernel
theorem dX5_addTrain_64 : decode cX5_addTrain 64 = .ok (.putfield 57, 3) := by decide +kernel
theorem dX5_addTrain_67 : decode cX5_addTrain 67 = .ok (.iload_n 2, 1) := by decide +kernel
theorem dX5_addTrain_68 : decode cX5_addTrain 68 = .ok (.ireturn, 1) := by decide +kernel
theorem dX5_setPressure_0 : decode cX5_setPressure 0 = .ok (.aload_n 0, 1) := by decide +kernel
theorem dX5_setPressure_1 : decode cX5_setPressure 1 = .ok (.iload_n 1, 1) := by decide +kernel
theorem dX5_setPressure_2 : decode cX5_setPressure 2 = .ok (.invokevirtual 74, 3) := by decide +kernel
theorem dX5_setPressure_5 : decode cX5_setPressure 5 = .ok (.iload_n 2, 1) := by decide +kernel
theorem dX5_setPressure_6 : decode cX5_setPressure 6 = .ok (.bipush 30, 2) := by decide +kernel
theorem dX5_setPressure_8 : decode cX5_setPressure 8 = .ok (.bipush 70, 2) := by decide +kernel
theorem dX5_setPressure_10 : decode cX5_setPressure 10 = .ok (.invokestatic 53, 3) := by decide +kernel
theorem dX5_setPressure_13 : decode cX5_setPressure 13 = .ok (.aload_n 0, 1) := by decide +kernel
theorem dX5_setPressure_14 : decode cX5_setPressure 14 = .ok (.getfield 10, 3) := by decide +kernel
theorem dX5_setPressure_17 : decode cX5_setPressure 17 = .ok (.getfield 71, 3) := by decide +kernel
theorem dX5_setPressure_20 : decode cX5_setPressure 20 = .ok (.iload_n 1, 1) := by decide +kernel
theorem dX5_setPressure_21 : decode cX5_setPressure 21 = .ok (.iaload, 1) := by decide +kernel
theorem dX5_setPressure_22 : decode cX5_setPressure 22 = .ok (.istore_n 3, 1) := by decide +kernel
theorem dX5_setPressure_23 : decode cX5_setPressure 23 = .ok (.aload_n 0, 1) := by decide +kernel
theorem dX5_setPressure_24 : decode cX5_setPressure 24 = .ok (.getfield 10, 3) := by decide +kernel
theorem dX5_setPressure_27 : decode cX5_setPressure 27 = .ok (.getfield 71, 3) := by decide +kernel
theorem dX5_setPressure_30 : decode cX5_setPressure 30 = .ok (.iload_n 1, 1) := by decide +kernel
theorem dX5_setPressure_31 : decode cX5_setPressure 31 = .ok (.iload_n 2, 1) := by decide +kernel
theorem dX5_setPressure_32 : decode cX5_setPressure 32 = .ok (.iastore, 1) := by decide +kernel
theorem dX5_setPressure_33 : decode cX5_setPressure 33 = .ok (.iload_n 3, 1) := by decide +kernel
theorem dX5_setPressure_34 : decode cX5_setPressure 34 = .ok (.ireturn, 1) := by decide +kernel
theorem dX5_setSalinity_0 : decode cX5_setSalinity 0 = .ok (.iload_n 1, 1) := by decide +kernel
theorem dX5_setSalinity_1 : decode cX5_setSalinity 1 = .ok (.bipush 20, 2) := by decide +kernel
theorem dX5_setSalinity_3 : decode cX5_setSalinity 3 = .ok (.bipush 35, 2) := by decide +kernel
theorem dX5_setSalinity_5 : decode cX5_setSalinity 5 = .ok (.invokestatic 53, 3) := by decide +kernel
theorem dX5_setSalinity_8 : decode cX5_setSalinity 8 = .ok (.aload_n 0, 1) := by decide +kernel
theorem dX5_setSalinity_9 : decode cX5_setSalinity 9 = .ok (.getfield 10, 3) := by decide +kernel
theorem dX5_setSalinity_12 : decode cX5_setSalinity 12 = .ok (.getfield 78, 3) := by decide +kernel
theorem dX5_setSalinity_15 : decode cX5_setSalinity 15 = .ok (.istore_n 2, 1) := by decide +kernel
theorem dX5_setSalinity_16 : decode cX5_setSalinity 16 = .ok (.aload_n 0, 1) := by decide +kernel
theorem dX5_setSalinity_17 : decode cX5_setSalinity 17 = .ok (.getfield 10, 3) := by decide +kernel
theorem dX5_setSalinity_20 : decode cX5_setSalinity 20 = .ok (.iload_n 1, 1) := by decide +kernel
theorem dX5_setSalinity_21 : decode cX5_setSalinity 21 = .ok (.putfield 78, 3) := by decide +kernel
theorem dX5_setSalinity_24 : decode cX5_setSalinity 24 = .ok (.iload_n 2, 1) := by decide +kernel
theorem dX5_setSalinity_25 : decode cX5_setSalinity 25 = .ok (.ireturn, 1) := by decide +kernel
theorem dX5_setRecovery_0 : decode cX5_setRecovery 0 = .ok (.iload_n 1, 1) := by decide +kernel
theorem dX5_setRecovery_1 : decode cX5_setRecovery 1 = .ok (.bipush 30, 2) := by decide +kernel
theorem dX5_setRecovery_3 : decode cX5_setRecovery 3 = .ok (.bipush 60, 2) := by decide +kernel
theorem dX5_setRecovery_5 : decode cX5_setRecovery 5 = .ok (.invokestatic 53, 3) := by decide +kernel
theorem dX5_setRecovery_8 : decode cX5_setRecovery 8 = .ok (.aload_n 0, 1) := by decide +kernel
theorem dX5_setRecovery_9 : decode cX5_setRecovery 9 = .ok (.getfield 10, 3) := by decide +kernel
theorem dX5_setRecovery_12 : decode cX5_setRecovery 12 = .ok (.getfield 81, 3) := by decide +kernel
theorem dX5_setRecovery_15 : decode cX5_setRecovery 15 = .ok (.istore_n 2, 1) := by decide +kernel
theorem dX5_setRecovery_16 : decode cX5_setRecovery 16 = .ok (.aload_n 0, 1) := by decide +kernel
theorem dX5_setRecovery_17 : decode cX5_setRecovery 17 = .ok (.getfield 10, 3) := by decide +kernel
theorem dX5_setRecovery_20 : decode cX5_setRecovery 20 = .ok (.iload_n 1, 1) := by decide +kernel
theorem dX5_setRecovery_21 : decode cX5_setRecovery 21 = .ok (.putfield 81, 3) := by decide +kernel
theorem dX5_setRecovery_24 : decode cX5_setRecovery 24 = .ok (.iload_n 2, 1) := by decide +kernel
theorem dX5_setRecovery_25 : decode cX5_setRecovery 25 = .ok (.ireturn, 1) := by decide +kernel
theorem dX5_clean_0 : decode cX5_clean 0 = .ok (.aload_n 0, 1) := by decide +kernel
theorem dX5_clean_1 : decode cX5_clean 1 = .ok (.iload_n 1, 1) := by decide +kernel
theorem dX5_clean_2 : decode cX5_clean 2 = .ok (.invokevirtual 74, 3) := by decide +kernel
theorem dX5_clean_5 : decode cX5_clean 5 = .ok (.aload_n 0, 1) := by decide +kernel
theorem dX5_clean_6 : decode cX5_clean 6 = .ok (.iload_n 1, 1) := by decide +kernel
theorem dX5_clean_7 : decode cX5_clean 7 = .ok (.invokevirtual 84, 3) := by decide +kernel
theorem dX5_clean_10 : decode cX5_clean 10 = .ok (.aload_n 0, 1) := by decide +kernel
theorem dX5_clean_11 : decode cX5_clean 11 = .ok (.getfield 10, 3) := by decide +kernel
theorem dX5_clean_14 : decode cX5_clean 14 = .ok (.getfield 67, 3) := by decide +kernel
theorem dX5_clean_17 : decode cX5_clean 17 = .ok (.iload_n 1, 1) := by decide +kernel
theorem dX5_clean_18 : decode cX5_clean 18 = .ok (.iaload, 1) := by decide +kernel
theorem dX5_clean_19 : decode cX5_clean 19 = .ok (.istore_n 2, 1) := by decide +kernel
theorem dX5_clean_20 : decode cX5_clean 20 = .ok (.aload_n 0, 1) := by decide +kernel
theorem dX5_clean_21 : decode cX5_clean 21 = .ok (.getfield 10, 3) := by decide +kernel
theorem dX5_clean_24 : decode cX5_clean 24 = .ok (.getfield 87, 3) := by decide +kernel
theorem dX5_clean_27 : decode cX5_clean 27 = .ok (.ifCond .eq 16, 3) := by decide +kernel
theorem dX5_clean_30 : decode cX5_clean 30 = .ok (.aload_n 0, 1) := by decide +kernel
theorem dX5_clean_31 : decode cX5_clean 31 = .ok (.getfield 19, 3) := by decide +kernel
theorem dX5_clean_34 : decode cX5_clean 34 = .ok (.getfield 90, 3) := by decide +kernel
theorem dX5_clean_37 : decode cX5_clean 37 = .ok (.iconst 0, 1) := by decide +kernel
theorem dX5_clean_38 : decode cX5_clean 38 = .ok (.iaload, 1) := by decide +kernel
theorem dX5_clean_39 : decode cX5_clean 39 = .ok (.iload_n 2, 1) := by decide +kernel
theorem dX5_clean_40 : decode cX5_clean 40 = .ok (.if_icmp .ge 13, 3) := by decide +kernel
theorem dX5_clean_43 : decode cX5_clean 43 = .ok (.new 93, 3) := by decide +kernel
theorem dX5_clean_46 : decode cX5_clean 46 = .ok (.dup, 1) := by decide +kernel
theorem dX5_clean_47 : decode cX5_clean 47 = .ok (.ldc 95, 2) := by decide +kernel
theorem dX5_clean_49 : decode cX5_clean 49 = .ok (.invokespecial 97, 3) := by decide +kernel
theorem dX5_clean_52 : decode cX5_clean 52 = .ok (.athrow, 1) := by decide +kernel
theorem dX5_clean_53 : decode cX5_clean 53 = .ok (.aload_n 0, 1) := by decide +kernel
theorem dX5_clean_54 : decode cX5_clean 54 = .ok (.getfield 19, 3) := by decide +kernel
theorem dX5_clean_57 : decode cX5_clean 57 = .ok (.getfield 90, 3) := by decide +kernel
theorem dX5_clean_60 : decode cX5_clean 60 = .ok (.iconst 0, 1) := by decide +kernel
theorem dX5_clean_61 : decode cX5_clean 61 = .ok (.dup2, 1) := by decide +kernel
theorem dX5_clean_62 : decode cX5_clean 62 = .ok (.iaload, 1) := by decide +kernel
theorem dX5_clean_63 : decode cX5_clean 63 = .ok (.iload_n 2, 1) := by decide +kernel
theorem dX5_clean_64 : decode cX5_clean 64 = .ok (.isub, 1) := by decide +kernel
theorem dX5_clean_65 : decode cX5_clean 65 = .ok (.iastore, 1) := by decide +kernel
theorem dX5_clean_66 : decode cX5_clean 66 = .ok (.aload_n 0, 1) := by decide +kernel
theorem dX5_clean_67 : decode cX5_clean 67 = .ok (.getfield 42, 3) := by decide +kernel
theorem dX5_clean_70 : decode cX5_clean 70 = .ok (.dup, 1) := by decide +kernel
theorem dX5_clean_71 : decode cX5_clean 71 = .ok (.getfield 98, 3) := by decide +kernel
theorem dX5_clean_74 : decode cX5_clean 74 = .ok (.iload_n 2, 1) := by decide +kernel
theorem dX5_clean_75 : decode cX5_clean 75 = .ok (.i2l, 1) := by decide +kernel
theorem dX5_clean_76 : decode cX5_clean 76 = .ok (.ladd, 1) := by decide +kernel
theorem dX5_clean_77 : decode cX5_clean 77 = .ok (.putfield 98, 3) := by decide +kernel
theorem dX5_clean_80 : decode cX5_clean 80 = .ok (.aload_n 0, 1) := by decide +kernel
theorem dX5_clean_81 : decode cX5_clean 81 = .ok (.getfield 19, 3) := by decide +kernel
theorem dX5_clean_84 : decode cX5_clean 84 = .ok (.getfield 102, 3) := by decide +kernel
theorem dX5_clean_87 : decode cX5_clean 87 = .ok (.iload_n 1, 1) := by decide +kernel
theorem dX5_clean_88 : decode cX5_clean 88 = .ok (.iconst 2, 1) := by decide +kernel
theorem dX5_clean_89 : decode cX5_clean 89 = .ok (.aload_n 0, 1) := by decide +kernel
theorem dX5_clean_90 : decode cX5_clean 90 = .ok (.getfield 19, 3) := by decide +kernel
theorem dX5_clean_93 : decode cX5_clean 93 = .ok (.getfield 105, 3) := by decide +kernel
theorem dX5_clean_96 : decode cX5_clean 96 = .ok (.iload_n 1, 1) := by decide +kernel
theorem dX5_clean_97 : decode cX5_clean 97 = .ok (.iaload, 1) := by decide +kernel
theorem dX5_clean_98 : decode cX5_clean 98 = .ok (.bipush 20, 2) := by decide +kernel
theorem dX5_clean_100 : decode cX5_clean 100 = .ok (.idiv, 1) := by decide +kernel
theorem dX5_clean_101 : decode cX5_clean 101 = .ok (.iadd, 1) := by decide +kernel
theorem dX5_clean_102 : decode cX5_clean 102 = .ok (.iastore, 1) := by decide +kernel
theorem dX5_clean_103 : decode cX5_clean 103 = .ok (.aload_n 0, 1) := by decide +kernel
theorem dX5_clean_104 : decode cX5_clean 104 = .ok (.getfield 19, 3) := by decide +kernel
theorem dX5_clean_107 : decode cX5_clean 107 = .ok (.getfield 102, 3) := by decide +kernel
theorem dX5_clean_110 : decode cX5_clean 110 = .ok (.iload_n 1, 1) := by decide +kernel
theorem dX5_clean_111 : decode cX5_clean 111 = .ok (.iaload, 1) := by decide +kernel
theorem dX5_clean_112 : decode cX5_clean 112 = .ok (.ireturn, 1) := by decide +kernel
theorem dX5_fouling_0 : decode cX5_fouling 0 = .ok (.aload_n 0, 1) := by decide +kernel
theorem dX5_fouling_1 : decode cX5_fouling 1 = .ok (.iload_n 1, 1) := by decide +kernel
theorem dX5_fouling_2 : decode cX5_fouling 2 = .ok (.invokevirtual 74, 3) := by decide +kernel
theorem dX5_fouling_5 : decode cX5_fouling 5 = .ok (.aload_n 0, 1) := by decide +kernel
theorem dX5_fouling_6 : decode cX5_fouling 6 = .ok (.getfield 19, 3) := by decide +kernel
theorem dX5_fouling_9 : decode cX5_fouling 9 = .ok (.getfield 105, 3) := by decide +kernel
theorem dX5_fouling_12 : decode cX5_fouling 12 = .ok (.iload_n 1, 1) := by decide +kernel
theorem dX5_fouling_13 : decode cX5_fouling 13 = .ok (.iaload, 1) := by decide +kernel
theorem dX5_fouling_14 : decode cX5_fouling 14 = .ok (.ireturn, 1) := by decide +kernel
theorem dX5_wear_0 : decode cX5_wear 0 = .ok (.aload_n 0, 1) := by decide +kernel
theorem dX5_wear_1 : decode cX5_wear 1 = .ok (.iload_n 1, 1) := by decide +kernel
theorem dX5_wear_2 : decode cX5_wear 2 = .ok (.invokevirtual 74, 3) := by decide +kernel
theorem dX5_wear_5 : decode cX5_wear 5 = .ok (.aload_n 0, 1) := by decide +kernel
theorem dX5_wear_6 : decode cX5_wear 6 = .ok (.getfield 19, 3) := by decide +kernel
theorem dX5_wear_9 : decode cX5_wear 9 = .ok (.getfield 108, 3) := by decide +kernel
theorem dX5_wear_12 : decode cX5_wear 12 = .ok (.iload_n 1, 1) := by decide +kernel
theorem dX5_wear_13 : decode cX5_wear 13 = .ok (.iaload, 1) := by decide +kernel
theorem dX5_wear_14 : decode cX5_wear 14 = .ok (.ireturn, 1) := by decide +kernel
theorem dX5_cleaningLeft_0 : decode cX5_cleaningLeft 0 = .ok (.aload_n 0, 1) := by decide +kernel
theorem dX5_cleaningLeft_1 : decode cX5_cleaningLeft 1 = .ok (.iload_n 1, 1) := by decide +kernel
theorem dX5_cleaningLeft_2 : decode cX5_cleaningLeft 2 = .ok (.invokevirtual 74, 3) := by decide +kernel
theorem dX5_cleaningLeft_5 : decode cX5_cleaningLeft 5 = .ok (.aload_n 0, 1) := by decide +kernel
theorem dX5_cleaningLeft_6 : decode cX5_cleaningLeft 6 = .ok (.getfield 19, 3) := by decide +kernel
theorem dX5_cleaningLeft_9 : decode cX5_cleaningLeft 9 = .ok (.getfield 102, 3) := by decide +kernel
theorem dX5_cleaningLeft_12 : decode cX5_cleaningLeft 12 = .ok (.iload_n 1, 1) := by decide +kernel
theorem dX5_cleaningLeft_13 : decode cX5_cleaningLeft 13 = .ok (.iaload, 1) := by decide +kernel
theorem dX5_cleaningLeft_14 : decode cX5_cleaningLeft 14 = .ok (.ireturn, 1) := by decide +kernel
theorem dX5_productOf_0 : decode cX5_productOf 0 = .ok (.aload_n 0, 1) := by decide +kernel
theorem dX5_productOf_1 : decode cX5_productOf 1 = .ok (.iload_n 1, 1) := by decide +kernel
theorem dX5_productOf_2 : decode cX5_productOf 2 = .ok (.invokevirtual 74, 3) := by decide +kernel
theorem dX5_productOf_5 : decode cX5_productOf 5 = .ok (.aload_n 0, 1) := by decide +kernel
theorem dX5_productOf_6 : decode cX5_productOf 6 = .ok (.iload_n 1, 1) := by decide +kernel
theorem dX5_productOf_7 : decode cX5_productOf 7 = .ok (.invokevirtual 84, 3) := by decide +kernel
theorem dX5_productOf_10 : decode cX5_productOf 10 = .ok (.aload_n 0, 1) := by decide +kernel
theorem dX5_productOf_11 : decode cX5_productOf 11 = .ok (.getfield 10, 3) := by decide +kernel
theorem dX5_productOf_14 : decode cX5_productOf 14 = .ok (.iload_n 1, 1) := by decide +kernel
theorem dX5_productOf_15 : decode cX5_productOf 15 = .ok (.aload_n 0, 1) := by decide +kernel
theorem dX5_productOf_16 : decode cX5_productOf 16 = .ok (.getfield 19, 3) := by decide +kernel
theorem dX5_productOf_19 : decode cX5_productOf 19 = .ok (.getfield 105, 3) := by decide +kernel
theorem dX5_productOf_22 : decode cX5_productOf 22 = .ok (.iload_n 1, 1) := by decide +kernel
theorem dX5_productOf_23 : decode cX5_productOf 23 = .ok (.iaload, 1) := by decide +kernel
theorem dX5_productOf_24 : decode cX5_productOf 24 = .ok (.invokevirtual 111, 3) := by decide +kernel
theorem dX5_productOf_27 : decode cX5_productOf 27 = .ok (.ireturn, 1) := by decide +kernel
theorem dX5_energyOf_0 : decode cX5_energyOf 0 = .ok (.aload_n 0, 1) := by decide +kernel
theorem dX5_energyOf_1 : decode cX5_energyOf 1 = .ok (.iload_n 1, 1) := by decide +kernel
theorem dX5_energyOf_2 : decode cX5_energyOf 2 = .ok (.invokevirtual 74, 3) := by decide +kernel
theorem dX5_energyOf_5 : decode cX5_energyOf 5 = .ok (.aload_n 0, 1) := by decide +kernel
theorem dX5_energyOf_6 : decode cX5_energyOf 6 = .ok (.iload_n 1, 1) := by decide +kernel
theorem dX5_energyOf_7 : decode cX5_energyOf 7 = .ok (.invokevirtual 84, 3) := by decide +kernel
theorem dX5_energyOf_10 : decode cX5_energyOf 10 = .ok (.aload_n 0, 1) := by decide +kernel
theorem dX5_energyOf_11 : decode cX5_energyOf 11 = .ok (.getfield 10, 3) := by decide +kernel
theorem dX5_energyOf_14 : decode cX5_energyOf 14 = .ok (.iload_n 1, 1) := by decide +kernel
theorem dX5_energyOf_15 : decode cX5_energyOf 15 = .ok (.aload_n 0, 1) := by decide +kernel
theorem dX5_energyOf_16 : decode cX5_energyOf 16 = .ok (.getfield 19, 3) := by decide +kernel
theorem dX5_energyOf_19 : decode cX5_energyOf 19 = .ok (.getfield 105, 3) := by decide +kernel
theorem dX5_energyOf_22 : decode cX5_energyOf 22 = .ok (.iload_n 1, 1) := by decide +kernel
theorem dX5_energyOf_23 : decode cX5_energyOf 23 = .ok (.iaload, 1) := by decide +kernel
theorem dX5_energyOf_24 : decode cX5_energyOf 24 = .ok (.invokevirtual 111, 3) := by decide +kernel
theorem dX5_energyOf_27 : decode cX5_energyOf 27 = .ok (.istore_n 2, 1) := by decide +kernel
theorem dX5_energyOf_28 : decode cX5_energyOf 28 = .ok (.aload_n 0, 1) := by decide +kernel
theorem dX5_energyOf_29 : decode cX5_energyOf 29 = .ok (.getfield 10, 3) := by decide +kernel
theorem dX5_energyOf_32 : decode cX5_energyOf 32 = .ok (.iload_n 1, 1) := by decide +kernel
theorem dX5_energyOf_33 : decode cX5_energyOf 33 = .ok (.aload_n 0, 1) := by decide +kernel
theorem dX5_energyOf_34 : decode cX5_energyOf 34 = .ok (.getfield 10, 3) := by decide +kernel
theorem dX5_energyOf_37 : decode cX5_energyOf 37 = .ok (.iload_n 2, 1) := by decide +kernel
theorem dX5_energyOf_38 : decode cX5_energyOf 38 = .ok (.invokevirtual 115, 3) := by decide +kernel
theorem dX5_energyOf_41 : decode cX5_energyOf 41 = .ok (.invokevirtual 119, 3) := by decide +kernel
theorem dX5_energyOf_44 : decode cX5_energyOf 44 = .ok (.ireturn, 1) := by decide +kernel
theorem dX5_readyTrains_0 : decode cX5_readyTrains 0 = .ok (.iconst 0, 1) := by decide +kernel
theorem dX5_readyTrains_1 : decode cX5_readyTrains 1 = .ok (.istore_n 1, 1) := by decide +kernel
theorem dX5_readyTrains_2 : decode cX5_readyTrains 2 = .ok (.iconst 0, 1) := by decide +kernel
theorem dX5_readyTrains_3 : decode cX5_readyTrains 3 = .ok (.istore_n 2, 1) := by decide +kernel
theorem dX5_readyTrains_4 : decode cX5_readyTrains 4 = .ok (.iload_n 2, 1) := by decide +kernel
theorem dX5_readyTrains_5 : decode cX5_readyTrains 5 = .ok (.aload_n 0, 1) := by decide +kernel
theorem dX5_readyTrains_6 : decode cX5_readyTrains 6 = .ok (.getfield 10, 3) := by decide +kernel
theorem dX5_readyTrains_9 : decode cX5_readyTrains 9 = .ok (.getfield 57, 3) := by decide +kernel
theorem dX5_readyTrains_12 : decode cX5_readyTrains 12 = .ok (.if_icmp .ge 24, 3) := by decide +kernel
theorem dX5_readyTrains_15 : decode cX5_readyTrains 15 = .ok (.aload_n 0, 1) := by decide +kernel
theorem dX5_readyTrains_16 : decode cX5_readyTrains 16 = .ok (.getfield 19, 3) := by decide +kernel
theorem dX5_readyTrains_19 : decode cX5_readyTrains 19 = .ok (.getfield 102, 3) := by decide +kernel
theorem dX5_readyTrains_22 : decode cX5_readyTrains 22 = .ok (.iload_n 2, 1) := by decide +kernel
theorem dX5_readyTrains_23 : decode cX5_readyTrains 23 = .ok (.iaload, 1) := by decide +kernel
theorem dX5_readyTrains_24 : decode cX5_readyTrains 24 = .ok (.ifCond .ne 6, 3) := by decide +kernel
theorem dX5_readyTrains_27 : decode cX5_readyTrains 27 = .ok (.iinc 1 1, 3) := by decide +kernel
theorem dX5_readyTrains_30 : decode cX5_readyTrains 30 = .ok (.iinc 2 1, 3) := by decide +kernel
theorem dX5_readyTrains_33 : decode cX5_readyTrains 33 = .ok (.goto (-29), 3) := by decide +kernel
theorem dX5_readyTrains_36 : decode cX5_readyTrains 36 = .ok (.iload_n 1, 1) := by decide +kernel
theorem dX5_readyTrains_37 : decode cX5_readyTrains 37 = .ok (.ireturn, 1) := by decide +kernel
theorem dX5_addTank_0 : decode cX5_addTank 0 = .ok (.iload_n 1, 1) := by decide +kernel
theorem dX5_addTank_1 : decode cX5_addTank 1 = .ok (.iconst 1, 1) := by decide +kernel
theorem dX5_addTank_2 : decode cX5_addTank 2 = .ok (.sipush 2000, 3) := by decide +kernel
theorem dX5_addTank_5 : decode cX5_addTank 5 = .ok (.invokestatic 53, 3) := by decide +kernel
theorem dX5_addTank_8 : decode cX5_addTank 8 = .ok (.aload_n 0, 1) := by decide +kernel
theorem dX5_addTank_9 : decode cX5_addTank 9 = .ok (.getfield 10, 3) := by decide +kernel
theorem dX5_addTank_12 : decode cX5_addTank 12 = .ok (.getfield 87, 3) := by decide +kernel
theorem dX5_addTank_15 : decode cX5_addTank 15 = .ok (.iconst 3, 1) := by decide +kernel
theorem dX5_addTank_16 : decode cX5_addTank 16 = .ok (.if_icmp .lt 13, 3) := by decide +kernel
theorem dX5_addTank_19 : decode cX5_addTank 19 = .ok (.new 60, 3) := by decide +kernel
theorem dX5_addTank_22 : decode cX5_addTank 22 = .ok (.dup, 1) := by decide +kernel
theorem dX5_addTank_23 : decode cX5_addTank 23 = .ok (.ldc 122, 2) := by decide +kernel
theorem dX5_addTank_25 : decode cX5_addTank 25 = .ok (.invokespecial 64, 3) := by decide +kernel
theorem dX5_addTank_28 : decode cX5_addTank 28 = .ok (.athrow, 1) := by decide +kernel
theorem dX5_addTank_29 : decode cX5_addTank 29 = .ok (.aload_n 0, 1) := by decide +kernel
theorem dX5_addTank_30 : decode cX5_addTank 30 = .ok (.getfield 10, 3) := by decide +kernel
theorem dX5_addTank_33 : decode cX5_addTank 33 = .ok (.getfield 87, 3) := by decide +kernel
theorem dX5_addTank_36 : decode cX5_addTank 36 = .ok (.istore_n 2, 1) := by decide +kernel
theorem dX5_addTank_37 : decode cX5_addTank 37 = .ok (.aload_n 0, 1) := by decide +kernel
theorem dX5_addTank_38 : decode cX5_addTank 38 = .ok (.getfield 10, 3) := by decide +kernel
theorem dX5_addTank_41 : decode cX5_addTank 41 = .ok (.getfield 124, 3) := by decide +kernel
theorem dX5_addTank_44 : decode cX5_addTank 44 = .ok (.iload_n 2, 1) := by decide +kernel
theorem dX5_addTank_45 : decode cX5_addTank 45 = .ok (.iload_n 1, 1) := by decide +kernel
theorem dX5_addTank_46 : decode cX5_addTank 46 = .ok (.iastore, 1) := by decide +kernel
theorem dX5_addTank_47 : decode cX5_addTank 47 = .ok (.aload_n 0, 1) := by decide +kernel
theorem dX5_addTank_48 : decode cX5_addTank 48 = .ok (.getfield 10, 3) := by decide +kernel
theorem dX5_addTank_51 : decode cX5_addTank 51 = .ok (.iload_n 2, 1) := by decide +kernel
theorem dX5_addTank_52 : decode cX5_addTank 52 = .ok (.iconst 1, 1) := by decide +kernel
theorem dX5_addTank_53 : decode cX5_addTank 53 = .ok (.iadd, 1) := by decide +kernel
theorem dX5_addTank_54 : decode cX5_addTank 54 = .ok (.putfield 87, 3) := by decide +kernel
theorem dX5_addTank_57 : decode cX5_addTank 57 = .ok (.iload_n 2, 1) := by decide +kernel
theorem dX5_addTank_58 : decode cX5_addTank 58 = .ok (.ireturn, 1) := by decide +kernel
theorem dX5_setDemand_0 : decode cX5_setDemand 0 = .ok (.aload_n 0, 1) := by decide +kernel
theorem dX5_setDemand_1 : decode cX5_setDemand 1 = .ok (.iload_n 1, 1) := by decide +kernel
theorem dX5_setDemand_2 : decode cX5_setDemand 2 = .ok (.invokevirtual 127, 3) := by decide +kernel
theorem dX5_setDemand_5 : decode cX5_setDemand 5 = .ok (.iload_n 2, 1) := by decide +kernel
theorem dX5_setDemand_6 : decode cX5_setDemand 6 = .ok (.iload_n 3, 1) := by decide +kernel
theorem dX5_setDemand_7 : decode cX5_setDemand 7 = .ok (.invokestatic 130, 3) := by decide +kernel
theorem dX5_setDemand_10 : decode cX5_setDemand 10 = .ok (.iload 4, 2) := by decide +kernel
theorem dX5_setDemand_12 : decode cX5_setDemand 12 = .ok (.iconst 0, 1) := by decide +kernel
theorem dX5_setDemand_13 : decode cX5_setDemand 13 = .ok (.sipush 200, 3) := by decide +kernel
theorem dX5_setDemand_16 : decode cX5_setDemand 16 = .ok (.invokestatic 53, 3) := by decide +kernel
theorem dX5_setDemand_19 : decode cX5_setDemand 19 = .ok (.aload_n 0, 1) := by decide +kernel
theorem dX5_setDemand_20 : decode cX5_setDemand 20 = .ok (.getfield 10, 3) := by decide +kernel
theorem dX5_setDemand_23 : decode cX5_setDemand 23 = .ok (.getfield 134, 3) := by decide +kernel
theorem dX5_setDemand_26 : decode cX5_setDemand 26 = .ok (.iload_n 1, 1) := by decide +kernel
theorem dX5_setDemand_27 : decode cX5_setDemand 27 = .ok (.aaload, 1) := by decide +kernel
theorem dX5_setDemand_28 : decode cX5_setDemand 28 = .ok (.iload_n 2, 1) := by decide +kernel
theorem dX5_setDemand_29 : decode cX5_setDemand 29 = .ok (.iload_n 3, 1) := by decide +kernel
theorem dX5_setDemand_30 : decode cX5_setDemand 30 = .ok (.iload 4, 2) := by decide +kernel
theorem dX5_setDemand_32 : decode cX5_setDemand 32 = .ok (.invokestatic 138, 3) := by decide +kernel
theorem dX5_setDemand_35 : decode cX5_setDemand 35 = .ok (.ireturn, 1) := by decide +kernel
theorem dX5_setPrice_0 : decode cX5_setPrice 0 = .ok (.iload_n 1, 1) := by decide +kernel
theorem dX5_setPrice_1 : decode cX5_setPrice 1 = .ok (.iload_n 2, 1) := by decide +kernel
theorem dX5_setPrice_2 : decode cX5_setPrice 2 = .ok (.invokestatic 130, 3) := by decide +kernel
theorem dX5_setPrice_5 : decode cX5_setPrice 5 = .ok (.iload_n 3, 1) := by decide +kernel
theorem dX5_setPrice_6 : decode cX5_setPrice 6 = .ok (.iconst 0, 1) := by decide +kernel
theorem dX5_setPrice_7 : decode cX5_setPrice 7 = .ok (.bipush 99, 2) := by decide +kernel
theorem dX5_setPrice_9 : decode cX5_setPrice 9 = .ok (.invokestatic 53, 3) := by decide +kernel
theorem dX5_setPrice_12 : decode cX5_setPrice 12 = .ok (.aload_n 0, 1) := by decide +kernel
theorem dX5_setPrice_13 : decode cX5_setPrice 13 = .ok (.getfield 10, 3) := by decide +kernel
theorem dX5_setPrice_16 : decode cX5_setPrice 16 = .ok (.getfield 142, 3) := by decide +kernel
theorem dX5_setPrice_19 : decode cX5_setPrice 19 = .ok (.iload_n 1, 1) := by decide +kernel
theorem dX5_setPrice_20 : decode cX5_setPrice 20 = .ok (.iload_n 2, 1) := by decide +kernel
theorem dX5_setPrice_21 : decode cX5_setPrice 21 = .ok (.iload_n 3, 1) := by decide +kernel
theorem dX5_setPrice_22 : decode cX5_setPrice 22 = .ok (.invokestatic 138, 3) := by decide +kernel
theorem dX5_setPrice_25 : decode cX5_setPrice 25 = .ok (.ireturn, 1) := by decide +kernel
theorem dX5_demand_0 : decode cX5_demand 0 = .ok (.aload_n 0, 1) := by decide +kernel
theorem dX5_demand_1 : decode cX5_demand 1 = .ok (.iload_n 1, 1) := by decide +kernel
theorem dX5_demand_2 : decode cX5_demand 2 = .ok (.invokevirtual 127, 3) := by decide +kernel
theorem dX5_demand_5 : decode cX5_demand 5 = .ok (.iload_n 2, 1) := by decide +kernel
theorem dX5_demand_6 : decode cX5_demand 6 = .ok (.iconst 0, 1) := by decide +kernel
theorem dX5_demand_7 : decode cX5_demand 7 = .ok (.bipush 47, 2) := by decide +kernel
theorem dX5_demand_9 : decode cX5_demand 9 = .ok (.invokestatic 53, 3) := by decide +kernel
theorem dX5_demand_12 : decode cX5_demand 12 = .ok (.aload_n 0, 1) := by decide +kernel
theorem dX5_demand_13 : decode cX5_demand 13 = .ok (.getfield 10, 3) := by decide +kernel
theorem dX5_demand_16 : decode cX5_demand 16 = .ok (.getfield 134, 3) := by decide +kernel
theorem dX5_demand_19 : decode cX5_demand 19 = .ok (.iload_n 1, 1) := by decide +kernel
theorem dX5_demand_20 : decode cX5_demand 20 = .ok (.aaload, 1) := by decide +kernel
theorem dX5_demand_21 : decode cX5_demand 21 = .ok (.iload_n 2, 1) := by decide +kernel
theorem dX5_demand_22 : decode cX5_demand 22 = .ok (.iaload, 1) := by decide +kernel
theorem dX5_demand_23 : decode cX5_demand 23 = .ok (.ireturn, 1) := by decide +kernel
theorem dX5_level_0 : decode cX5_level 0 = .ok (.aload_n 0, 1) := by decide +kernel
theorem dX5_level_1 : decode cX5_level 1 = .ok (.iload_n 1, 1) := by decide +kernel
theorem dX5_level_2 : decode cX5_level 2 = .ok (.invokevirtual 127, 3) := by decide +kernel
theorem dX5_level_5 : decode cX5_level 5 = .ok (.aload_n 0, 1) := by decide +kernel
theorem dX5_level_6 : decode cX5_level 6 = .ok (.getfield 19, 3) := by decide +kernel
theorem dX5_level_9 : decode cX5_level 9 = .ok (.getfield 90, 3) := by decide +kernel
theorem dX5_level_12 : decode cX5_level 12 = .ok (.iload_n 1, 1) := by decide +kernel
theorem dX5_level_13 : decode cX5_level 13 = .ok (.iaload, 1) := by decide +kernel
theorem dX5_level_14 : decode cX5_level 14 = .ok (.ireturn, 1) := by decide +kernel
theorem dX5_shortOf_0 : decode cX5_shortOf 0 = .ok (.aload_n 0, 1) := by decide +kernel
theorem dX5_shortOf_1 : decode cX5_shortOf 1 = .ok (.iload_n 1, 1) := by decide +kernel
theorem dX5_shortOf_2 : decode cX5_shortOf 2 = .ok (.invokevirtual 127, 3) := by decide +kernel
theorem dX5_shortOf_5 : decode cX5_shortOf 5 = .ok (.aload_n 0, 1) := by decide +kernel
theorem dX5_shortOf_6 : decode cX5_shortOf 6 = .ok (.getfield 42, 3) := by decide +kernel
theorem dX5_shortOf_9 : decode cX5_shortOf 9 = .ok (.getfield 145, 3) := by decide +kernel
theorem dX5_shortOf_12 : decode cX5_shortOf 12 = .ok (.iload_n 1, 1) := by decide +kernel
theorem dX5_shortOf_13 : decode cX5_shortOf 13 = .ok (.iaload, 1) := by decide +kernel
theorem dX5_shortOf_14 : decode cX5_shortOf 14 = .ok (.ireturn, 1) := by decide +kernel
theorem dX5_pass_0 : decode cX5_pass 0 = .ok (.aload_n 0, 1) := by decide +kernel
theorem dX5_pass_1 : decode cX5_pass 1 = .ok (.iload_n 1, 1) := by decide +kernel
theorem dX5_pass_2 : decode cX5_pass 2 = .ok (.invokevirtual 148, 3) := by decide +kernel
theorem dX5_pass_5 : decode cX5_pass 5 = .ok (.aload_n 0, 1) := by decide +kernel
theorem dX5_pass_6 : decode cX5_pass 6 = .ok (.getfield 19, 3) := by decide +kernel
theorem dX5_pass_9 : decode cX5_pass 9 = .ok (.getfield 152, 3) := by decide +kernel
theorem dX5_pass_12 : decode cX5_pass 12 = .ok (.ireturn, 1) := by decide +kernel
theorem dX5_run_0 : decode cX5_run 0 = .ok (.iload_n 1, 1) := by decide +kernel
theorem dX5_run_1 : decode cX5_run 1 = .ok (.iconst 1, 1) := by decide +kernel
theorem dX5_run_2 : decode cX5_run 2 = .ok (.bipush 12, 2) := by decide +kernel
theorem dX5_run_4 : decode cX5_run 4 = .ok (.invokestatic 53, 3) := by decide +kernel
theorem dX5_run_7 : decode cX5_run 7 = .ok (.iconst 0, 1) := by decide +kernel
theorem dX5_run_8 : decode cX5_run 8 = .ok (.istore_n 2, 1) := by decide +kernel
theorem dX5_run_9 : decode cX5_run 9 = .ok (.iconst 0, 1) := by decide +kernel
theorem dX5_run_10 : decode cX5_run 10 = .ok (.istore_n 3, 1) := by decide +kernel
theorem dX5_run_11 : decode cX5_run 11 = .ok (.iload_n 3, 1) := by decide +kernel
theorem dX5_run_12 : decode cX5_run 12 = .ok (.iload_n 1, 1) := by decide +kernel
theorem dX5_run_13 : decode cX5_run 13 = .ok (.if_icmp .ge 100, 3) := by decide +kernel
theorem dX5_run_16 : decode cX5_run 16 = .ok (.aload_n 0, 1) := by decide +kernel
theorem dX5_run_17 : decode cX5_run 17 = .ok (.getfield 26, 3) := by decide +kernel
theorem dX5_run_20 : decode cX5_run 20 = .ok (.aload_n 0, 1) := by decide +kernel
theorem dX5_run_21 : decode cX5_run 21 = .ok (.getfield 50, 3) := by decide +kernel
theorem dX5_run_24 : decode cX5_run 24 = .ok (.invokevirtual 155, 3) := by decide +kernel
theorem dX5_run_27 : decode cX5_run 27 = .ok (.istore 4, 2) := by decide +kernel
theorem dX5_run_29 : decode cX5_run 29 = .ok (.iload 4, 2) := by decide +kernel
theorem dX5_run_31 : decode cX5_run 31 = .ok (.iconst (-1), 1) := by decide +kernel
theorem dX5_run_32 : decode cX5_run 32 = .ok (.if_icmp .ne 55, 3) := by decide +kernel
theorem dX5_run_35 : decode cX5_run 35 = .ok (.aload_n 0, 1) := by decide +kernel
theorem dX5_run_36 : decode cX5_run 36 = .ok (.getfield 35, 3) := by decide +kernel
theorem dX5_run_39 : decode cX5_run 39 = .ok (.aload_n 0, 1) := by decide +kernel
theorem dX5_run_40 : decode cX5_run 40 = .ok (.getfield 19, 3) := by decide +kernel
theorem dX5_run_43 : decode cX5_run 43 = .ok (.aload_n 0, 1) := by decide +kernel
theorem dX5_run_44 : decode cX5_run 44 = .ok (.getfield 50, 3) := by decide +kernel
theorem dX5_run_47 : decode cX5_run 47 = .ok (.aload_n 0, 1) := by decide +kernel
theorem dX5_run_48 : decode cX5_run 48 = .ok (.getfield 46, 3) := by decide +kernel
theorem dX5_run_51 : decode cX5_run 51 = .ok (.invokevirtual 158, 3) := by decide +kernel
theorem dX5_run_54 : decode cX5_run 54 = .ok (.aload_n 0, 1) := by decide +kernel
theorem dX5_run_55 : decode cX5_run 55 = .ok (.getfield 35, 3) := by decide +kernel
theorem dX5_run_58 : decode cX5_run 58 = .ok (.getfield 162, 3) := by decide +kernel
theorem dX5_run_61 : decode cX5_run 61 = .ok (.ldc 165, 2) := by decide +kernel
theorem dX5_run_63 : decode cX5_run 63 = .ok (.if_icmp .ge 21, 3) := by decide +kernel
theorem dX5_run_66 : decode cX5_run 66 = .ok (.aload_n 0, 1) := by decide +kernel
theorem dX5_run_67 : decode cX5_run 67 = .ok (.getfield 35, 3) := by decide +kernel
theorem dX5_run_70 : decode cX5_run 70 = .ok (.aload_n 0, 1) := by decide +kernel
theorem dX5_run_71 : decode cX5_run 71 = .ok (.getfield 35, 3) := by decide +kernel
theorem dX5_run_74 : decode cX5_run 74 = .ok (.getfield 166, 3) := by decide +kernel
theorem dX5_run_77 : decode cX5_run 77 = .ok (.iconst 0, 1) := by decide +kernel
theorem dX5_run_78 : decode cX5_run 78 = .ok (.invokevirtual 169, 3) := by decide +kernel
theorem dX5_run_81 : decode cX5_run 81 = .ok (.goto 4, 3) := by decide +kernel
theorem dX5_run_84 : decode cX5_run 84 = .ok (.iconst 1, 1) := by decide +kernel
theorem dX5_run_85 : decode cX5_run 85 = .ok (.istore 4, 2) := by decide +kernel
theorem dX5_run_87 : decode cX5_run 87 = .ok (.aload_n 0, 1) := by decide +kernel
theorem dX5_run_88 : decode cX5_run 88 = .ok (.iload 4, 2) := by decide +kernel
theorem dX5_run_90 : decode cX5_run 90 = .ok (.iconst 1, 1) := by decide +kernel
theorem dX5_run_91 : decode cX5_run 91 = .ok (.if_icmp .ne 7, 3) := by decide +kernel
theorem dX5_run_94 : decode cX5_run 94 = .ok (.iconst 1, 1) := by decide +kernel
theorem dX5_run_95 : decode cX5_run 95 = .ok (.goto 4, 3) := by decide +kernel
theorem dX5_run_98 : decode cX5_run 98 = .ok (.iconst 0, 1) := by decide +kernel
theorem dX5_run_99 : decode cX5_run 99 = .ok (.invokevirtual 148, 3) := by decide +kernel
theorem dX5_run_102 : decode cX5_run 102 = .ok (.iload_n 2, 1) := by decide +kernel
theorem dX5_run_103 : decode cX5_run 103 = .ok (.iload 4, 2) := by decide +kernel
theorem dX5_run_105 : decode cX5_run 105 = .ok (.iadd, 1) := by decide +kernel
theorem dX5_run_106 : decode cX5_run 106 = .ok (.istore_n 2, 1) := by decide +kernel
theorem dX5_run_107 : decode cX5_run 107 = .ok (.iinc 3 1, 3) := by decide +kernel
theorem dX5_run_110 : decode cX5_run 110 = .ok (.goto (-99), 3) := by decide +kernel
theorem dX5_run_113 : decode cX5_run 113 = .ok (.iload_n 2, 1) := by decide +kernel
theorem dX5_run_114 : decode cX5_run 114 = .ok (.ireturn, 1) := by decide +kernel
theorem dX5_setHorizon_0 : decode cX5_setHorizon 0 = .ok (.iload_n 1, 1) := by decide +kernel
theorem dX5_setHorizon_1 : decode cX5_setHorizon 1 = .ok (.iconst 1, 1) := by decide +kernel
theorem dX5_setHorizon_2 : decode cX5_setHorizon 2 = .ok (.bipush 6, 2) := by decide +kernel
theorem dX5_setHorizon_4 : decode cX5_setHorizon 4 = .ok (.invokestatic 53, 3) := by decide +kernel
theorem dX5_setHorizon_7 : decode cX5_setHorizon 7 = .ok (.aload_n 0, 1) := by decide +kernel
theorem dX5_setHorizon_8 : decode cX5_setHorizon 8 = .ok (.getfield 46, 3) := by decide +kernel
theorem dX5_setHorizon_11 : decode cX5_setHorizon 11 = .ok (.istore_n 2, 1) := by decide +kernel
theorem dX5_setHorizon_12 : decode cX5_setHorizon 12 = .ok (.aload_n 0, 1) := by decide +kernel
theorem dX5_setHorizon_13 : decode cX5_setHorizon 13 = .ok (.iload_n 1, 1) := by decide +kernel
theorem dX5_setHorizon_14 : decode cX5_setHorizon 14 = .ok (.putfield 46, 3) := by decide +kernel
theorem dX5_setHorizon_17 : decode cX5_setHorizon 17 = .ok (.iload_n 2, 1) := by decide +kernel
theorem dX5_setHorizon_18 : decode cX5_setHorizon 18 = .ok (.ireturn, 1) := by decide +kernel
theorem dX5_order_0 : decode cX5_order 0 = .ok (.iload_n 1, 1) := by decide +kernel
theorem dX5_order_1 : decode cX5_order 1 = .ok (.aload_n 0, 1) := by decide +kernel
theorem dX5_order_2 : decode cX5_order 2 = .ok (.getfield 50, 3) := by decide +kernel
theorem dX5_order_5 : decode cX5_order 5 = .ok (.if_icmp .ge 13, 3) := by decide +kernel
theorem dX5_order_8 : decode cX5_order 8 = .ok (.new 172, 3) := by decide +kernel
theorem dX5_order_11 : decode cX5_order 11 = .ok (.dup, 1) := by decide +kernel
theorem dX5_order_12 : decode cX5_order 12 = .ok (.ldc 174, 2) := by decide +kernel
theorem dX5_order_14 : decode cX5_order 14 = .ok (.invokespecial 176, 3) := by decide +kernel
theorem dX5_order_17 : decode cX5_order 17 = .ok (.athrow, 1) := by decide +kernel
theorem dX5_order_18 : decode cX5_order 18 = .ok (.aload_n 0, 1) := by decide +kernel
theorem dX5_order_19 : decode cX5_order 19 = .ok (.getfield 26, 3) := by decide +kernel
theorem dX5_order_22 : decode cX5_order 22 = .ok (.iload_n 1, 1) := by decide +kernel
theorem dX5_order_23 : decode cX5_order 23 = .ok (.invokevirtual 155, 3) := by decide +kernel
theorem dX5_order_26 : decode cX5_order 26 = .ok (.iconst (-1), 1) := by decide +kernel
theorem dX5_order_27 : decode cX5_order 27 = .ok (.if_icmp .ne 25, 3) := by decide +kernel
theorem dX5_order_30 : decode cX5_order 30 = .ok (.aload_n 0, 1) := by decide +kernel
theorem dX5_order_31 : decode cX5_order 31 = .ok (.getfield 26, 3) := by decide +kernel
theorem dX5_order_34 : decode cX5_order 34 = .ok (.getfield 177, 3) := by decide +kernel
theorem dX5_order_37 : decode cX5_order 37 = .ok (.bipush 6, 2) := by decide +kernel
theorem dX5_order_39 : decode cX5_order 39 = .ok (.if_icmp .lt 13, 3) := by decide +kernel
theorem dX5_order_42 : decode cX5_order 42 = .ok (.new 60, 3) := by decide +kernel
theorem dX5_order_45 : decode cX5_order 45 = .ok (.dup, 1) := by decide +kernel
theorem dX5_order_46 : decode cX5_order 46 = .ok (.ldc 180, 2) := by decide +kernel
theorem dX5_order_48 : decode cX5_order 48 = .ok (.invokespecial 64, 3) := by decide +kernel
theorem dX5_order_51 : decode cX5_order 51 = .ok (.athrow, 1) := by decide +kernel
theorem dX5_order_52 : decode cX5_order 52 = .ok (.aload_n 0, 1) := by decide +kernel
theorem dX5_order_53 : decode cX5_order 53 = .ok (.getfield 26, 3) := by decide +kernel
theorem dX5_order_56 : decode cX5_order 56 = .ok (.iload_n 1, 1) := by decide +kernel
theorem dX5_order_57 : decode cX5_order 57 = .ok (.iload_n 2, 1) := by decide +kernel
theorem dX5_order_58 : decode cX5_order 58 = .ok (.ifCond .eq 7, 3) := by decide +kernel
theorem dX5_order_61 : decode cX5_order 61 = .ok (.iconst 1, 1) := by decide +kernel
theorem dX5_order_62 : decode cX5_order 62 = .ok (.goto 4, 3) := by decide +kernel
theorem dX5_order_65 : decode cX5_order 65 = .ok (.iconst 0, 1) := by decide +kernel
theorem dX5_order_66 : decode cX5_order 66 = .ok (.invokevirtual 182, 3) := by decide +kernel
theorem dX5_order_69 : decode cX5_order 69 = .ok (.aload_n 0, 1) := by decide +kernel
theorem dX5_order_70 : decode cX5_order 70 = .ok (.getfield 26, 3) := by decide +kernel
theorem dX5_order_73 : decode cX5_order 73 = .ok (.getfield 177, 3) := by decide +kernel
theorem dX5_order_76 : decode cX5_order 76 = .ok (.ireturn, 1) := by decide +kernel
theorem dX5_takeBack_0 : decode cX5_takeBack 0 = .ok (.aload_n 0, 1) := by decide +kernel
theorem dX5_takeBack_1 : decode cX5_takeBack 1 = .ok (.getfield 26, 3) := by decide +kernel
theorem dX5_takeBack_4 : decode cX5_takeBack 4 = .ok (.iload_n 1, 1) := by decide +kernel
theorem dX5_takeBack_5 : decode cX5_takeBack 5 = .ok (.invokevirtual 155, 3) := by decide +kernel
theorem dX5_takeBack_8 : decode cX5_takeBack 8 = .ok (.istore_n 2, 1) := by decide +kernel
theorem dX5_takeBack_9 : decode cX5_takeBack 9 = .ok (.iload_n 2, 1) := by decide +kernel
theorem dX5_takeBack_10 : decode cX5_takeBack 10 = .ok (.iconst (-1), 1) := by decide +kernel
theorem dX5_takeBack_11 : decode cX5_takeBack 11 = .ok (.if_icmp .ne 13, 3) := by decide +kernel
theorem dX5_takeBack_14 : decode cX5_takeBack 14 = .ok (.new 185, 3) := by decide +kernel
theorem dX5_takeBack_17 : decode cX5_takeBack 17 = .ok (.dup, 1) := by decide +kernel
theorem dX5_takeBack_18 : decode cX5_takeBack 18 = .ok (.ldc 187, 2) := by decide +kernel
theorem dX5_takeBack_20 : decode cX5_takeBack 20 = .ok (.invokespecial 189, 3) := by decide +kernel
theorem dX5_takeBack_23 : decode cX5_takeBack 23 = .ok (.athrow, 1) := by decide +kernel
theorem dX5_takeBack_24 : decode cX5_takeBack 24 = .ok (.aload_n 0, 1) := by decide +kernel
theorem dX5_takeBack_25 : decode cX5_takeBack 25 = .ok (.getfield 26, 3) := by decide +kernel
theorem dX5_takeBack_28 : decode cX5_takeBack 28 = .ok (.iload_n 1, 1) := by decide +kernel
theorem dX5_takeBack_29 : decode cX5_takeBack 29 = .ok (.invokevirtual 190, 3) := by decide +kernel
theorem dX5_takeBack_32 : decode cX5_takeBack 32 = .ok (.iload_n 2, 1) := by decide +kernel
theorem dX5_takeBack_33 : decode cX5_takeBack 33 = .ok (.iconst 1, 1) := by decide +kernel
theorem dX5_takeBack_34 : decode cX5_takeBack 34 = .ok (.if_icmp .ne 7, 3) := by decide +kernel
theorem dX5_takeBack_37 : decode cX5_takeBack 37 = .ok (.iconst 1, 1) := by decide +kernel
theorem dX5_takeBack_38 : decode cX5_takeBack 38 = .ok (.goto 4, 3) := by decide +kernel
theorem dX5_takeBack_41 : decode cX5_takeBack 41 = .ok (.iconst 0, 1) := by decide +kernel
theorem dX5_takeBack_42 : decode cX5_takeBack 42 = .ok (.ireturn, 1) := by decide +kernel
theorem dX5_halfHour_0 : decode cX5_halfHour 0 = .ok (.aload_n 0, 1) := by decide +kernel
theorem dX5_halfHour_1 : decode cX5_halfHour 1 = .ok (.getfield 50, 3) := by decide +kernel
theorem dX5_halfHour_4 : decode cX5_halfHour 4 = .ok (.ireturn, 1) := by decide +kernel
theorem dX5_bestCost_0 : decode cX5_bestCost 0 = .ok (.iload_n 1, 1) := by decide +kernel
theorem dX5_bestCost_1 : decode cX5_bestCost 1 = .ok (.iconst 1, 1) := by decide +kernel
theorem dX5_bestCost_2 : decode cX5_bestCost 2 = .ok (.bipush 6, 2) := by decide +kernel
theorem dX5_bestCost_4 : decode cX5_bestCost 4 = .ok (.invokestatic 53, 3) := by decide +kernel
theorem dX5_bestCost_7 : decode cX5_bestCost 7 = .ok (.aload_n 0, 1) := by decide +kernel
theorem dX5_bestCost_8 : decode cX5_bestCost 8 = .ok (.getfield 35, 3) := by decide +kernel
theorem dX5_bestCost_11 : decode cX5_bestCost 11 = .ok (.aload_n 0, 1) := by decide +kernel
theorem dX5_bestCost_12 : decode cX5_bestCost 12 = .ok (.getfield 19, 3) := by decide +kernel
theorem dX5_bestCost_15 : decode cX5_bestCost 15 = .ok (.aload_n 0, 1) := by decide +kernel
theorem dX5_bestCost_16 : decode cX5_bestCost 16 = .ok (.getfield 50, 3) := by decide +kernel
theorem dX5_bestCost_19 : decode cX5_bestCost 19 = .ok (.iload_n 1, 1) := by decide +kernel
theorem dX5_bestCost_20 : decode cX5_bestCost 20 = .ok (.invokevirtual 158, 3) := by decide +kernel
theorem dX5_bestCost_23 : decode cX5_bestCost 23 = .ok (.aload_n 0, 1) := by decide +kernel
theorem dX5_bestCost_24 : decode cX5_bestCost 24 = .ok (.getfield 35, 3) := by decide +kernel
theorem dX5_bestCost_27 : decode cX5_bestCost 27 = .ok (.getfield 162, 3) := by decide +kernel
theorem dX5_bestCost_30 : decode cX5_bestCost 30 = .ok (.invokestatic 193, 3) := by decide +kernel
theorem dX5_bestCost_33 : decode cX5_bestCost 33 = .ok (.aload_n 0, 1) := by decide +kernel
theorem dX5_bestCost_34 : decode cX5_bestCost 34 = .ok (.getfield 35, 3) := by decide +kernel
theorem dX5_bestCost_37 : decode cX5_bestCost 37 = .ok (.getfield 162, 3) := by decide +kernel
theorem dX5_bestCost_40 : decode cX5_bestCost 40 = .ok (.ireturn, 1) := by decide +kernel
theorem dX5_bestCostByTrying_0 : decode cX5_bestCostByTrying 0 = .ok (.iload_n 1, 1) := by decide +kernel
theorem dX5_bestCostByTrying_1 : decode cX5_bestCostByTrying 1 = .ok (.iconst 1, 1) := by decide +kernel
theorem dX5_bestCostByTrying_2 : decode cX5_bestCostByTrying 2 = .ok (.bipush 6, 2) := by decide +kernel
theorem dX5_bestCostByTrying_4 : decode cX5_bestCostByTrying 4 = .ok (.invokestatic 53, 3) := by decide +kernel
theorem dX5_bestCostByTrying_7 : decode cX5_bestCostByTrying 7 = .ok (.aload_n 0, 1) := by decide +kernel
theorem dX5_bestCostByTrying_8 : decode cX5_bestCostByTrying 8 = .ok (.getfield 35, 3) := by decide +kernel
theorem dX5_bestCostByTrying_11 : decode cX5_bestCostByTrying 11 = .ok (.aload_n 0, 1) := by decide +kernel
theorem dX5_bestCostByTrying_12 : decode cX5_bestCostByTrying 12 = .ok (.getfield 19, 3) := by decide +kernel
theorem dX5_bestCostByTrying_15 : decode cX5_bestCostByTrying 15 = .ok (.aload_n 0, 1) := by decide +kernel
theorem dX5_bestCostByTrying_16 : decode cX5_bestCostByTrying 16 = .ok (.getfield 50, 3) := by decide +kernel
theorem dX5_bestCostByTrying_19 : decode cX5_bestCostByTrying 19 = .ok (.iload_n 1, 1) := by decide +kernel
theorem dX5_bestCostByTrying_20 : decode cX5_bestCostByTrying 20 = .ok (.invokevirtual 196, 3) := by decide +kernel
theorem dX5_bestCostByTrying_23 : decode cX5_bestCostByTrying 23 = .ok (.ldc 165, 2) := by decide +kernel
theorem dX5_bestCostByTrying_25 : decode cX5_bestCostByTrying 25 = .ok (.istore_n 2, 1) := by decide +kernel
theorem dX5_bestCostByTrying_26 : decode cX5_bestCostByTrying 26 = .ok (.iconst 0, 1) := by decide +kernel
theorem dX5_bestCostByTrying_27 : decode cX5_bestCostByTrying 27 = .ok (.istore_n 3, 1) := by decide +kernel
theorem dX5_bestCostByTrying_28 : decode cX5_bestCostByTrying 28 = .ok (.iload_n 3, 1) := by decide +kernel
theorem dX5_bestCostByTrying_29 : decode cX5_bestCostByTrying 29 = .ok (.iconst 1, 1) := by decide +kernel
end
section
theorem dX5_bestCostByTrying_30 : decode cX5_bestCostByTrying 30 = .ok (.iload_n 1, 1) := by decide +kernel
theorem dX5_bestCostByTrying_31 : decode cX5_bestCostByTrying 31 = .ok (.ishl, 1) := by decide +kernel
theorem dX5_bestCostByTrying_32 : decode cX5_bestCostByTrying 32 = .ok (.if_icmp .ge 22, 3) := by decide +kernel
theorem dX5_bestCostByTrying_35 : decode cX5_bestCostByTrying 35 = .ok (.iload_n 2, 1) := by decide +kernel
theorem dX5_bestCostByTrying_36 : decode cX5_bestCostByTrying 36 = .ok (.aload_n 0, 1) := by decide +kernel
theorem dX5_bestCostByTrying_37 : decode cX5_bestCostByTrying 37 = .ok (.getfield 35, 3) := by decide +kernel
theorem dX5_bestCostByTrying_40 : decode cX5_bestCostByTrying 40 = .ok (.iload_n 3, 1) := by decide +kernel
theorem dX5_bestCostByTrying_41 : decode cX5_bestCostByTrying 41 = .ok (.invokevirtual 199, 3) := by decide +kernel
theorem dX5_bestCostByTrying_44 : decode cX5_bestCostByTrying 44 = .ok (.invokestatic 202, 3) := by decide +kernel
theorem dX5_bestCostByTrying_47 : decode cX5_bestCostByTrying 47 = .ok (.istore_n 2, 1) := by decide +kernel
theorem dX5_bestCostByTrying_48 : decode cX5_bestCostByTrying 48 = .ok (.iinc 3 1, 3) := by decide +kernel
theorem dX5_bestCostByTrying_51 : decode cX5_bestCostByTrying 51 = .ok (.goto (-23), 3) := by decide +kernel
theorem dX5_bestCostByTrying_54 : decode cX5_bestCostByTrying 54 = .ok (.iload_n 2, 1) := by decide +kernel
theorem dX5_bestCostByTrying_55 : decode cX5_bestCostByTrying 55 = .ok (.invokestatic 193, 3) := by decide +kernel
theorem dX5_bestCostByTrying_58 : decode cX5_bestCostByTrying 58 = .ok (.iload_n 2, 1) := by decide +kernel
theorem dX5_bestCostByTrying_59 : decode cX5_bestCostByTrying 59 = .ok (.ireturn, 1) := by decide +kernel
theorem dX5_isOnInBest_0 : decode cX5_isOnInBest 0 = .ok (.iload_n 1, 1) := by decide +kernel
theorem dX5_isOnInBest_1 : decode cX5_isOnInBest 1 = .ok (.iconst 1, 1) := by decide +kernel
theorem dX5_isOnInBest_2 : decode cX5_isOnInBest 2 = .ok (.bipush 6, 2) := by decide +kernel
theorem dX5_isOnInBest_4 : decode cX5_isOnInBest 4 = .ok (.invokestatic 53, 3) := by decide +kernel
theorem dX5_isOnInBest_7 : decode cX5_isOnInBest 7 = .ok (.iload_n 2, 1) := by decide +kernel
theorem dX5_isOnInBest_8 : decode cX5_isOnInBest 8 = .ok (.ifCond .lt 8, 3) := by decide +kernel
theorem dX5_isOnInBest_11 : decode cX5_isOnInBest 11 = .ok (.iload_n 2, 1) := by decide +kernel
theorem dX5_isOnInBest_12 : decode cX5_isOnInBest 12 = .ok (.iload_n 1, 1) := by decide +kernel
theorem dX5_isOnInBest_13 : decode cX5_isOnInBest 13 = .ok (.if_icmp .lt 13, 3) := by decide +kernel
theorem dX5_isOnInBest_16 : decode cX5_isOnInBest 16 = .ok (.new 207, 3) := by decide +kernel
theorem dX5_isOnInBest_19 : decode cX5_isOnInBest 19 = .ok (.dup, 1) := by decide +kernel
theorem dX5_isOnInBest_20 : decode cX5_isOnInBest 20 = .ok (.ldc 209, 2) := by decide +kernel
theorem dX5_isOnInBest_22 : decode cX5_isOnInBest 22 = .ok (.invokespecial 211, 3) := by decide +kernel
theorem dX5_isOnInBest_25 : decode cX5_isOnInBest 25 = .ok (.athrow, 1) := by decide +kernel
theorem dX5_isOnInBest_26 : decode cX5_isOnInBest 26 = .ok (.aload_n 0, 1) := by decide +kernel
theorem dX5_isOnInBest_27 : decode cX5_isOnInBest 27 = .ok (.getfield 35, 3) := by decide +kernel
theorem dX5_isOnInBest_30 : decode cX5_isOnInBest 30 = .ok (.aload_n 0, 1) := by decide +kernel
theorem dX5_isOnInBest_31 : decode cX5_isOnInBest 31 = .ok (.getfield 19, 3) := by decide +kernel
theorem dX5_isOnInBest_34 : decode cX5_isOnInBest 34 = .ok (.aload_n 0, 1) := by decide +kernel
theorem dX5_isOnInBest_35 : decode cX5_isOnInBest 35 = .ok (.getfield 50, 3) := by decide +kernel
theorem dX5_isOnInBest_38 : decode cX5_isOnInBest 38 = .ok (.iload_n 1, 1) := by decide +kernel
theorem dX5_isOnInBest_39 : decode cX5_isOnInBest 39 = .ok (.invokevirtual 158, 3) := by decide +kernel
theorem dX5_isOnInBest_42 : decode cX5_isOnInBest 42 = .ok (.aload_n 0, 1) := by decide +kernel
theorem dX5_isOnInBest_43 : decode cX5_isOnInBest 43 = .ok (.getfield 35, 3) := by decide +kernel
theorem dX5_isOnInBest_46 : decode cX5_isOnInBest 46 = .ok (.getfield 162, 3) := by decide +kernel
theorem dX5_isOnInBest_49 : decode cX5_isOnInBest 49 = .ok (.invokestatic 193, 3) := by decide +kernel
theorem dX5_isOnInBest_52 : decode cX5_isOnInBest 52 = .ok (.aload_n 0, 1) := by decide +kernel
theorem dX5_isOnInBest_53 : decode cX5_isOnInBest 53 = .ok (.getfield 35, 3) := by decide +kernel
theorem dX5_isOnInBest_56 : decode cX5_isOnInBest 56 = .ok (.aload_n 0, 1) := by decide +kernel
theorem dX5_isOnInBest_57 : decode cX5_isOnInBest 57 = .ok (.getfield 35, 3) := by decide +kernel
theorem dX5_isOnInBest_60 : decode cX5_isOnInBest 60 = .ok (.getfield 166, 3) := by decide +kernel
theorem dX5_isOnInBest_63 : decode cX5_isOnInBest 63 = .ok (.iload_n 2, 1) := by decide +kernel
theorem dX5_isOnInBest_64 : decode cX5_isOnInBest 64 = .ok (.invokevirtual 169, 3) := by decide +kernel
theorem dX5_isOnInBest_67 : decode cX5_isOnInBest 67 = .ok (.iconst 1, 1) := by decide +kernel
theorem dX5_isOnInBest_68 : decode cX5_isOnInBest 68 = .ok (.if_icmp .ne 7, 3) := by decide +kernel
theorem dX5_isOnInBest_71 : decode cX5_isOnInBest 71 = .ok (.iconst 1, 1) := by decide +kernel
theorem dX5_isOnInBest_72 : decode cX5_isOnInBest 72 = .ok (.goto 4, 3) := by decide +kernel
theorem dX5_isOnInBest_75 : decode cX5_isOnInBest 75 = .ok (.iconst 0, 1) := by decide +kernel
theorem dX5_isOnInBest_76 : decode cX5_isOnInBest 76 = .ok (.ireturn, 1) := by decide +kernel
theorem dX5_allowedSchedules_0 : decode cX5_allowedSchedules 0 = .ok (.iload_n 1, 1) := by decide +kernel
theorem dX5_allowedSchedules_1 : decode cX5_allowedSchedules 1 = .ok (.iconst 1, 1) := by decide +kernel
theorem dX5_allowedSchedules_2 : decode cX5_allowedSchedules 2 = .ok (.bipush 6, 2) := by decide +kernel
theorem dX5_allowedSchedules_4 : decode cX5_allowedSchedules 4 = .ok (.invokestatic 53, 3) := by decide +kernel
theorem dX5_allowedSchedules_7 : decode cX5_allowedSchedules 7 = .ok (.aload_n 0, 1) := by decide +kernel
theorem dX5_allowedSchedules_8 : decode cX5_allowedSchedules 8 = .ok (.getfield 35, 3) := by decide +kernel
theorem dX5_allowedSchedules_11 : decode cX5_allowedSchedules 11 = .ok (.aload_n 0, 1) := by decide +kernel
theorem dX5_allowedSchedules_12 : decode cX5_allowedSchedules 12 = .ok (.getfield 19, 3) := by decide +kernel
theorem dX5_allowedSchedules_15 : decode cX5_allowedSchedules 15 = .ok (.aload_n 0, 1) := by decide +kernel
theorem dX5_allowedSchedules_16 : decode cX5_allowedSchedules 16 = .ok (.getfield 50, 3) := by decide +kernel
theorem dX5_allowedSchedules_19 : decode cX5_allowedSchedules 19 = .ok (.iload_n 1, 1) := by decide +kernel
theorem dX5_allowedSchedules_20 : decode cX5_allowedSchedules 20 = .ok (.invokevirtual 196, 3) := by decide +kernel
theorem dX5_allowedSchedules_23 : decode cX5_allowedSchedules 23 = .ok (.iconst 0, 1) := by decide +kernel
theorem dX5_allowedSchedules_24 : decode cX5_allowedSchedules 24 = .ok (.istore_n 2, 1) := by decide +kernel
theorem dX5_allowedSchedules_25 : decode cX5_allowedSchedules 25 = .ok (.iconst 0, 1) := by decide +kernel
theorem dX5_allowedSchedules_26 : decode cX5_allowedSchedules 26 = .ok (.istore_n 3, 1) := by decide +kernel
theorem dX5_allowedSchedules_27 : decode cX5_allowedSchedules 27 = .ok (.iload_n 3, 1) := by decide +kernel
theorem dX5_allowedSchedules_28 : decode cX5_allowedSchedules 28 = .ok (.iconst 1, 1) := by decide +kernel
theorem dX5_allowedSchedules_29 : decode cX5_allowedSchedules 29 = .ok (.iload_n 1, 1) := by decide +kernel
theorem dX5_allowedSchedules_30 : decode cX5_allowedSchedules 30 = .ok (.ishl, 1) := by decide +kernel
theorem dX5_allowedSchedules_31 : decode cX5_allowedSchedules 31 = .ok (.if_icmp .ge 25, 3) := by decide +kernel
theorem dX5_allowedSchedules_34 : decode cX5_allowedSchedules 34 = .ok (.aload_n 0, 1) := by decide +kernel
theorem dX5_allowedSchedules_35 : decode cX5_allowedSchedules 35 = .ok (.getfield 35, 3) := by decide +kernel
theorem dX5_allowedSchedules_38 : decode cX5_allowedSchedules 38 = .ok (.iload_n 3, 1) := by decide +kernel
theorem dX5_allowedSchedules_39 : decode cX5_allowedSchedules 39 = .ok (.invokevirtual 199, 3) := by decide +kernel
theorem dX5_allowedSchedules_42 : decode cX5_allowedSchedules 42 = .ok (.ldc 165, 2) := by decide +kernel
theorem dX5_allowedSchedules_44 : decode cX5_allowedSchedules 44 = .ok (.if_icmp .ge 6, 3) := by decide +kernel
theorem dX5_allowedSchedules_47 : decode cX5_allowedSchedules 47 = .ok (.iinc 2 1, 3) := by decide +kernel
theorem dX5_allowedSchedules_50 : decode cX5_allowedSchedules 50 = .ok (.iinc 3 1, 3) := by decide +kernel
theorem dX5_allowedSchedules_53 : decode cX5_allowedSchedules 53 = .ok (.goto (-26), 3) := by decide +kernel
theorem dX5_allowedSchedules_56 : decode cX5_allowedSchedules 56 = .ok (.iload_n 2, 1) := by decide +kernel
theorem dX5_allowedSchedules_57 : decode cX5_allowedSchedules 57 = .ok (.ireturn, 1) := by decide +kernel
theorem dX5_feed_0 : decode cX5_feed 0 = .ok (.aload_n 0, 1) := by decide +kernel
theorem dX5_feed_1 : decode cX5_feed 1 = .ok (.getfield 42, 3) := by decide +kernel
theorem dX5_feed_4 : decode cX5_feed 4 = .ok (.getfield 212, 3) := by decide +kernel
theorem dX5_feed_7 : decode cX5_feed 7 = .ok (.lreturn, 1) := by decide +kernel
theorem dX5_product_0 : decode cX5_product 0 = .ok (.aload_n 0, 1) := by decide +kernel
theorem dX5_product_1 : decode cX5_product 1 = .ok (.getfield 42, 3) := by decide +kernel
theorem dX5_product_4 : decode cX5_product 4 = .ok (.getfield 215, 3) := by decide +kernel
theorem dX5_product_7 : decode cX5_product 7 = .ok (.lreturn, 1) := by decide +kernel
theorem dX5_brine_0 : decode cX5_brine 0 = .ok (.aload_n 0, 1) := by decide +kernel
theorem dX5_brine_1 : decode cX5_brine 1 = .ok (.getfield 42, 3) := by decide +kernel
theorem dX5_brine_4 : decode cX5_brine 4 = .ok (.getfield 217, 3) := by decide +kernel
theorem dX5_brine_7 : decode cX5_brine 7 = .ok (.lreturn, 1) := by decide +kernel
theorem dX5_spilled_0 : decode cX5_spilled 0 = .ok (.aload_n 0, 1) := by decide +kernel
theorem dX5_spilled_1 : decode cX5_spilled 1 = .ok (.getfield 42, 3) := by decide +kernel
theorem dX5_spilled_4 : decode cX5_spilled 4 = .ok (.getfield 220, 3) := by decide +kernel
theorem dX5_spilled_7 : decode cX5_spilled 7 = .ok (.lreturn, 1) := by decide +kernel
theorem dX5_spilledByBalance_0 : decode cX5_spilledByBalance 0 = .ok (.lconst 0, 1) := by decide +kernel
theorem dX5_spilledByBalance_1 : decode cX5_spilledByBalance 1 = .ok (.lstore_n 1, 1) := by decide +kernel
theorem dX5_spilledByBalance_2 : decode cX5_spilledByBalance 2 = .ok (.iconst 0, 1) := by decide +kernel
theorem dX5_spilledByBalance_3 : decode cX5_spilledByBalance 3 = .ok (.istore_n 3, 1) := by decide +kernel
theorem dX5_spilledByBalance_4 : decode cX5_spilledByBalance 4 = .ok (.iload_n 3, 1) := by decide +kernel
theorem dX5_spilledByBalance_5 : decode cX5_spilledByBalance 5 = .ok (.aload_n 0, 1) := by decide +kernel
theorem dX5_spilledByBalance_6 : decode cX5_spilledByBalance 6 = .ok (.getfield 10, 3) := by decide +kernel
theorem dX5_spilledByBalance_9 : decode cX5_spilledByBalance 9 = .ok (.getfield 87, 3) := by decide +kernel
theorem dX5_spilledByBalance_12 : decode cX5_spilledByBalance 12 = .ok (.if_icmp .ge 22, 3) := by decide +kernel
theorem dX5_spilledByBalance_15 : decode cX5_spilledByBalance 15 = .ok (.lload_n 1, 1) := by decide +kernel
theorem dX5_spilledByBalance_16 : decode cX5_spilledByBalance 16 = .ok (.aload_n 0, 1) := by decide +kernel
theorem dX5_spilledByBalance_17 : decode cX5_spilledByBalance 17 = .ok (.getfield 19, 3) := by decide +kernel
theorem dX5_spilledByBalance_20 : decode cX5_spilledByBalance 20 = .ok (.getfield 90, 3) := by decide +kernel
theorem dX5_spilledByBalance_23 : decode cX5_spilledByBalance 23 = .ok (.iload_n 3, 1) := by decide +kernel
theorem dX5_spilledByBalance_24 : decode cX5_spilledByBalance 24 = .ok (.iaload, 1) := by decide +kernel
theorem dX5_spilledByBalance_25 : decode cX5_spilledByBalance 25 = .ok (.i2l, 1) := by decide +kernel
theorem dX5_spilledByBalance_26 : decode cX5_spilledByBalance 26 = .ok (.ladd, 1) := by decide +kernel
theorem dX5_spilledByBalance_27 : decode cX5_spilledByBalance 27 = .ok (.lstore_n 1, 1) := by decide +kernel
theorem dX5_spilledByBalance_28 : decode cX5_spilledByBalance 28 = .ok (.iinc 3 1, 3) := by decide +kernel
theorem dX5_spilledByBalance_31 : decode cX5_spilledByBalance 31 = .ok (.goto (-27), 3) := by decide +kernel
theorem dX5_spilledByBalance_34 : decode cX5_spilledByBalance 34 = .ok (.aload_n 0, 1) := by decide +kernel
theorem dX5_spilledByBalance_35 : decode cX5_spilledByBalance 35 = .ok (.getfield 42, 3) := by decide +kernel
theorem dX5_spilledByBalance_38 : decode cX5_spilledByBalance 38 = .ok (.getfield 215, 3) := by decide +kernel
theorem dX5_spilledByBalance_41 : decode cX5_spilledByBalance 41 = .ok (.aload_n 0, 1) := by decide +kernel
theorem dX5_spilledByBalance_42 : decode cX5_spilledByBalance 42 = .ok (.getfield 42, 3) := by decide +kernel
theorem dX5_spilledByBalance_45 : decode cX5_spilledByBalance 45 = .ok (.getfield 223, 3) := by decide +kernel
theorem dX5_spilledByBalance_48 : decode cX5_spilledByBalance 48 = .ok (.lsub, 1) := by decide +kernel
theorem dX5_spilledByBalance_49 : decode cX5_spilledByBalance 49 = .ok (.aload_n 0, 1) := by decide +kernel
theorem dX5_spilledByBalance_50 : decode cX5_spilledByBalance 50 = .ok (.getfield 42, 3) := by decide +kernel
theorem dX5_spilledByBalance_53 : decode cX5_spilledByBalance 53 = .ok (.getfield 98, 3) := by decide +kernel
theorem dX5_spilledByBalance_56 : decode cX5_spilledByBalance 56 = .ok (.lsub, 1) := by decide +kernel
theorem dX5_spilledByBalance_57 : decode cX5_spilledByBalance 57 = .ok (.lload_n 1, 1) := by decide +kernel
theorem dX5_spilledByBalance_58 : decode cX5_spilledByBalance 58 = .ok (.lsub, 1) := by decide +kernel
theorem dX5_spilledByBalance_59 : decode cX5_spilledByBalance 59 = .ok (.lreturn, 1) := by decide +kernel
theorem dX5_cost_0 : decode cX5_cost 0 = .ok (.aload_n 0, 1) := by decide +kernel
theorem dX5_cost_1 : decode cX5_cost 1 = .ok (.getfield 42, 3) := by decide +kernel
theorem dX5_cost_4 : decode cX5_cost 4 = .ok (.getfield 226, 3) := by decide +kernel
theorem dX5_cost_7 : decode cX5_cost 7 = .ok (.lreturn, 1) := by decide +kernel
theorem dX5_isBalanced_0 : decode cX5_isBalanced 0 = .ok (.aload_n 0, 1) := by decide +kernel
theorem dX5_isBalanced_1 : decode cX5_isBalanced 1 = .ok (.getfield 42, 3) := by decide +kernel
theorem dX5_isBalanced_4 : decode cX5_isBalanced 4 = .ok (.getfield 212, 3) := by decide +kernel
theorem dX5_isBalanced_7 : decode cX5_isBalanced 7 = .ok (.aload_n 0, 1) := by decide +kernel
theorem dX5_isBalanced_8 : decode cX5_isBalanced 8 = .ok (.getfield 42, 3) := by decide +kernel
theorem dX5_isBalanced_11 : decode cX5_isBalanced 11 = .ok (.getfield 215, 3) := by decide +kernel
theorem dX5_isBalanced_14 : decode cX5_isBalanced 14 = .ok (.aload_n 0, 1) := by decide +kernel
theorem dX5_isBalanced_15 : decode cX5_isBalanced 15 = .ok (.getfield 42, 3) := by decide +kernel
theorem dX5_isBalanced_18 : decode cX5_isBalanced 18 = .ok (.getfield 217, 3) := by decide +kernel
theorem dX5_isBalanced_21 : decode cX5_isBalanced 21 = .ok (.ladd, 1) := by decide +kernel
theorem dX5_isBalanced_22 : decode cX5_isBalanced 22 = .ok (.lcmp, 1) := by decide +kernel
theorem dX5_isBalanced_23 : decode cX5_isBalanced 23 = .ok (.ifCond .ne 22, 3) := by decide +kernel
theorem dX5_isBalanced_26 : decode cX5_isBalanced 26 = .ok (.aload_n 0, 1) := by decide +kernel
theorem dX5_isBalanced_27 : decode cX5_isBalanced 27 = .ok (.getfield 42, 3) := by decide +kernel
theorem dX5_isBalanced_30 : decode cX5_isBalanced 30 = .ok (.getfield 220, 3) := by decide +kernel
theorem dX5_isBalanced_33 : decode cX5_isBalanced 33 = .ok (.aload_n 0, 1) := by decide +kernel
theorem dX5_isBalanced_34 : decode cX5_isBalanced 34 = .ok (.invokevirtual 229, 3) := by decide +kernel
theorem dX5_isBalanced_37 : decode cX5_isBalanced 37 = .ok (.lcmp, 1) := by decide +kernel
theorem dX5_isBalanced_38 : decode cX5_isBalanced 38 = .ok (.ifCond .ne 7, 3) := by decide +kernel
theorem dX5_isBalanced_41 : decode cX5_isBalanced 41 = .ok (.iconst 1, 1) := by decide +kernel
theorem dX5_isBalanced_42 : decode cX5_isBalanced 42 = .ok (.goto 4, 3) := by decide +kernel
theorem dX5_isBalanced_45 : decode cX5_isBalanced 45 = .ok (.iconst 0, 1) := by decide +kernel
theorem dX5_isBalanced_46 : decode cX5_isBalanced 46 = .ok (.ireturn, 1) := by decide +kernel
theorem dX5_servedShare_0 : decode cX5_servedShare 0 = .ok (.aload_n 0, 1) := by decide +kernel
theorem dX5_servedShare_1 : decode cX5_servedShare 1 = .ok (.getfield 42, 3) := by decide +kernel
theorem dX5_servedShare_4 : decode cX5_servedShare 4 = .ok (.getfield 233, 3) := by decide +kernel
theorem dX5_servedShare_7 : decode cX5_servedShare 7 = .ok (.lconst 0, 1) := by decide +kernel
theorem dX5_servedShare_8 : decode cX5_servedShare 8 = .ok (.lcmp, 1) := by decide +kernel
theorem dX5_servedShare_9 : decode cX5_servedShare 9 = .ok (.ifCond .ne 13, 3) := by decide +kernel
theorem dX5_servedShare_12 : decode cX5_servedShare 12 = .ok (.new 236, 3) := by decide +kernel
theorem dX5_servedShare_15 : decode cX5_servedShare 15 = .ok (.dup, 1) := by decide +kernel
theorem dX5_servedShare_16 : decode cX5_servedShare 16 = .ok (.ldc 238, 2) := by decide +kernel
theorem dX5_servedShare_18 : decode cX5_servedShare 18 = .ok (.invokespecial 240, 3) := by decide +kernel
theorem dX5_servedShare_21 : decode cX5_servedShare 21 = .ok (.athrow, 1) := by decide +kernel
theorem dX5_servedShare_22 : decode cX5_servedShare 22 = .ok (.aload_n 0, 1) := by decide +kernel
theorem dX5_servedShare_23 : decode cX5_servedShare 23 = .ok (.getfield 42, 3) := by decide +kernel
theorem dX5_servedShare_26 : decode cX5_servedShare 26 = .ok (.getfield 223, 3) := by decide +kernel
theorem dX5_servedShare_29 : decode cX5_servedShare 29 = .ok (.l2f, 1) := by decide +kernel
theorem dX5_servedShare_30 : decode cX5_servedShare 30 = .ok (.aload_n 0, 1) := by decide +kernel
theorem dX5_servedShare_31 : decode cX5_servedShare 31 = .ok (.getfield 42, 3) := by decide +kernel
theorem dX5_servedShare_34 : decode cX5_servedShare 34 = .ok (.getfield 233, 3) := by decide +kernel
theorem dX5_servedShare_37 : decode cX5_servedShare 37 = .ok (.l2f, 1) := by decide +kernel
theorem dX5_servedShare_38 : decode cX5_servedShare 38 = .ok (.fdiv, 1) := by decide +kernel
theorem dX5_servedShare_39 : decode cX5_servedShare 39 = .ok (.freturn, 1) := by decide +kernel
theorem dX5_meanCost_0 : decode cX5_meanCost 0 = .ok (.aload_n 0, 1) := by decide +kernel
theorem dX5_meanCost_1 : decode cX5_meanCost 1 = .ok (.getfield 50, 3) := by decide +kernel
theorem dX5_meanCost_4 : decode cX5_meanCost 4 = .ok (.ifCond .ne 13, 3) := by decide +kernel
theorem dX5_meanCost_7 : decode cX5_meanCost 7 = .ok (.new 236, 3) := by decide +kernel
theorem dX5_meanCost_10 : decode cX5_meanCost 10 = .ok (.dup, 1) := by decide +kernel
theorem dX5_meanCost_11 : decode cX5_meanCost 11 = .ok (.ldc 241, 2) := by decide +kernel
theorem dX5_meanCost_13 : decode cX5_meanCost 13 = .ok (.invokespecial 240, 3) := by decide +kernel
theorem dX5_meanCost_16 : decode cX5_meanCost 16 = .ok (.athrow, 1) := by decide +kernel
theorem dX5_meanCost_17 : decode cX5_meanCost 17 = .ok (.aload_n 0, 1) := by decide +kernel
theorem dX5_meanCost_18 : decode cX5_meanCost 18 = .ok (.getfield 42, 3) := by decide +kernel
theorem dX5_meanCost_21 : decode cX5_meanCost 21 = .ok (.getfield 226, 3) := by decide +kernel
theorem dX5_meanCost_24 : decode cX5_meanCost 24 = .ok (.l2d, 1) := by decide +kernel
theorem dX5_meanCost_25 : decode cX5_meanCost 25 = .ok (.aload_n 0, 1) := by decide +kernel
theorem dX5_meanCost_26 : decode cX5_meanCost 26 = .ok (.getfield 50, 3) := by decide +kernel
theorem dX5_meanCost_29 : decode cX5_meanCost 29 = .ok (.i2d, 1) := by decide +kernel
theorem dX5_meanCost_30 : decode cX5_meanCost 30 = .ok (.ddiv, 1) := by decide +kernel
theorem dX5_meanCost_31 : decode cX5_meanCost 31 = .ok (.dreturn, 1) := by decide +kernel
theorem dX5_checkRange_0 : decode cX5_checkRange 0 = .ok (.iload_n 0, 1) := by decide +kernel
theorem dX5_checkRange_1 : decode cX5_checkRange 1 = .ok (.iload_n 1, 1) := by decide +kernel
theorem dX5_checkRange_2 : decode cX5_checkRange 2 = .ok (.if_icmp .lt 8, 3) := by decide +kernel
theorem dX5_checkRange_5 : decode cX5_checkRange 5 = .ok (.iload_n 0, 1) := by decide +kernel
theorem dX5_checkRange_6 : decode cX5_checkRange 6 = .ok (.iload_n 2, 1) := by decide +kernel
theorem dX5_checkRange_7 : decode cX5_checkRange 7 = .ok (.if_icmp .le 13, 3) := by decide +kernel
theorem dX5_checkRange_10 : decode cX5_checkRange 10 = .ok (.new 172, 3) := by decide +kernel
theorem dX5_checkRange_13 : decode cX5_checkRange 13 = .ok (.dup, 1) := by decide +kernel
theorem dX5_checkRange_14 : decode cX5_checkRange 14 = .ok (.ldc 243, 2) := by decide +kernel
theorem dX5_checkRange_16 : decode cX5_checkRange 16 = .ok (.invokespecial 176, 3) := by decide +kernel
theorem dX5_checkRange_19 : decode cX5_checkRange 19 = .ok (.athrow, 1) := by decide +kernel
theorem dX5_checkRange_20 : decode cX5_checkRange 20 = .ok (.return_, 1) := by decide +kernel
theorem dX5_checkSlots_0 : decode cX5_checkSlots 0 = .ok (.iload_n 0, 1) := by decide +kernel
theorem dX5_checkSlots_1 : decode cX5_checkSlots 1 = .ok (.iconst 0, 1) := by decide +kernel
theorem dX5_checkSlots_2 : decode cX5_checkSlots 2 = .ok (.bipush 47, 2) := by decide +kernel
theorem dX5_checkSlots_4 : decode cX5_checkSlots 4 = .ok (.invokestatic 53, 3) := by decide +kernel
theorem dX5_checkSlots_7 : decode cX5_checkSlots 7 = .ok (.iload_n 1, 1) := by decide +kernel
theorem dX5_checkSlots_8 : decode cX5_checkSlots 8 = .ok (.iload_n 0, 1) := by decide +kernel
theorem dX5_checkSlots_9 : decode cX5_checkSlots 9 = .ok (.bipush 47, 2) := by decide +kernel
theorem dX5_checkSlots_11 : decode cX5_checkSlots 11 = .ok (.invokestatic 53, 3) := by decide +kernel
theorem dX5_checkSlots_14 : decode cX5_checkSlots 14 = .ok (.return_, 1) := by decide +kernel
theorem dX5_checkAllowed_0 : decode cX5_checkAllowed 0 = .ok (.iload_n 0, 1) := by decide +kernel
theorem dX5_checkAllowed_1 : decode cX5_checkAllowed 1 = .ok (.ldc 165, 2) := by decide +kernel
theorem dX5_checkAllowed_3 : decode cX5_checkAllowed 3 = .ok (.if_icmp .lt 13, 3) := by decide +kernel
theorem dX5_checkAllowed_6 : decode cX5_checkAllowed 6 = .ok (.new 185, 3) := by decide +kernel
theorem dX5_checkAllowed_9 : decode cX5_checkAllowed 9 = .ok (.dup, 1) := by decide +kernel
theorem dX5_checkAllowed_10 : decode cX5_checkAllowed 10 = .ok (.ldc 245, 2) := by decide +kernel
theorem dX5_checkAllowed_12 : decode cX5_checkAllowed 12 = .ok (.invokespecial 189, 3) := by decide +kernel
theorem dX5_checkAllowed_15 : decode cX5_checkAllowed 15 = .ok (.athrow, 1) := by decide +kernel
theorem dX5_checkAllowed_16 : decode cX5_checkAllowed 16 = .ok (.return_, 1) := by decide +kernel
theorem dX5_checkTrain_0 : decode cX5_checkTrain 0 = .ok (.iload_n 1, 1) := by decide +kernel
theorem dX5_checkTrain_1 : decode cX5_checkTrain 1 = .ok (.ifCond .lt 14, 3) := by decide +kernel
theorem dX5_checkTrain_4 : decode cX5_checkTrain 4 = .ok (.iload_n 1, 1) := by decide +kernel
theorem dX5_checkTrain_5 : decode cX5_checkTrain 5 = .ok (.aload_n 0, 1) := by decide +kernel
theorem dX5_checkTrain_6 : decode cX5_checkTrain 6 = .ok (.getfield 10, 3) := by decide +kernel
theorem dX5_checkTrain_9 : decode cX5_checkTrain 9 = .ok (.getfield 57, 3) := by decide +kernel
theorem dX5_checkTrain_12 : decode cX5_checkTrain 12 = .ok (.if_icmp .lt 13, 3) := by decide +kernel
theorem dX5_checkTrain_15 : decode cX5_checkTrain 15 = .ok (.new 207, 3) := by decide +kernel
theorem dX5_checkTrain_18 : decode cX5_checkTrain 18 = .ok (.dup, 1) := by decide +kernel
theorem dX5_checkTrain_19 : decode cX5_checkTrain 19 = .ok (.ldc 247, 2) := by decide +kernel
theorem dX5_checkTrain_21 : decode cX5_checkTrain 21 = .ok (.invokespecial 211, 3) := by decide +kernel
theorem dX5_checkTrain_24 : decode cX5_checkTrain 24 = .ok (.athrow, 1) := by decide +kernel
theorem dX5_checkTrain_25 : decode cX5_checkTrain 25 = .ok (.return_, 1) := by decide +kernel
theorem dX5_checkReady_0 : decode cX5_checkReady 0 = .ok (.aload_n 0, 1) := by decide +kernel
theorem dX5_checkReady_1 : decode cX5_checkReady 1 = .ok (.getfield 19, 3) := by decide +kernel
theorem dX5_checkReady_4 : decode cX5_checkReady 4 = .ok (.getfield 102, 3) := by decide +kernel
theorem dX5_checkReady_7 : decode cX5_checkReady 7 = .ok (.iload_n 1, 1) := by decide +kernel
theorem dX5_checkReady_8 : decode cX5_checkReady 8 = .ok (.iaload, 1) := by decide +kernel
theorem dX5_checkReady_9 : decode cX5_checkReady 9 = .ok (.ifCond .le 13, 3) := by decide +kernel
theorem dX5_checkReady_12 : decode cX5_checkReady 12 = .ok (.new 60, 3) := by decide +kernel
theorem dX5_checkReady_15 : decode cX5_checkReady 15 = .ok (.dup, 1) := by decide +kernel
theorem dX5_checkReady_16 : decode cX5_checkReady 16 = .ok (.ldc 249, 2) := by decide +kernel
theorem dX5_checkReady_18 : decode cX5_checkReady 18 = .ok (.invokespecial 64, 3) := by decide +kernel
theorem dX5_checkReady_21 : decode cX5_checkReady 21 = .ok (.athrow, 1) := by decide +kernel
theorem dX5_checkReady_22 : decode cX5_checkReady 22 = .ok (.return_, 1) := by decide +kernel
theorem dX5_checkTank_0 : decode cX5_checkTank 0 = .ok (.iload_n 1, 1) := by decide +kernel
theorem dX5_checkTank_1 : decode cX5_checkTank 1 = .ok (.ifCond .lt 14, 3) := by decide +kernel
theorem dX5_checkTank_4 : decode cX5_checkTank 4 = .ok (.iload_n 1, 1) := by decide +kernel
theorem dX5_checkTank_5 : decode cX5_checkTank 5 = .ok (.aload_n 0, 1) := by decide +kernel
theorem dX5_checkTank_6 : decode cX5_checkTank 6 = .ok (.getfield 10, 3) := by decide +kernel
theorem dX5_checkTank_9 : decode cX5_checkTank 9 = .ok (.getfield 87, 3) := by decide +kernel
theorem dX5_checkTank_12 : decode cX5_checkTank 12 = .ok (.if_icmp .lt 13, 3) := by decide +kernel
theorem dX5_checkTank_15 : decode cX5_checkTank 15 = .ok (.new 207, 3) := by decide +kernel
theorem dX5_checkTank_18 : decode cX5_checkTank 18 = .ok (.dup, 1) := by decide +kernel
theorem dX5_checkTank_19 : decode cX5_checkTank 19 = .ok (.ldc 251, 2) := by decide +kernel
theorem dX5_checkTank_21 : decode cX5_checkTank 21 = .ok (.invokespecial 211, 3) := by decide +kernel
theorem dX5_checkTank_24 : decode cX5_checkTank 24 = .ok (.athrow, 1) := by decide +kernel
theorem dX5_checkTank_25 : decode cX5_checkTank 25 = .ok (.return_, 1) := by decide +kernel
theorem dX5_fillSlots_0 : decode cX5_fillSlots 0 = .ok (.iconst 0, 1) := by decide +kernel
theorem dX5_fillSlots_1 : decode cX5_fillSlots 1 = .ok (.istore 4, 2) := by decide +kernel
theorem dX5_fillSlots_3 : decode cX5_fillSlots 3 = .ok (.iconst 0, 1) := by decide +kernel
theorem dX5_fillSlots_4 : decode cX5_fillSlots 4 = .ok (.istore 5, 2) := by decide +kernel
theorem dX5_fillSlots_6 : decode cX5_fillSlots 6 = .ok (.iload 5, 2) := by decide +kernel
theorem dX5_fillSlots_8 : decode cX5_fillSlots 8 = .ok (.aload_n 0, 1) := by decide +kernel
theorem dX5_fillSlots_9 : decode cX5_fillSlots 9 = .ok (.arraylength, 1) := by decide +kernel
theorem dX5_fillSlots_10 : decode cX5_fillSlots 10 = .ok (.if_icmp .ge 35, 3) := by decide +kernel
theorem dX5_fillSlots_13 : decode cX5_fillSlots 13 = .ok (.iload 5, 2) := by decide +kernel
theorem dX5_fillSlots_15 : decode cX5_fillSlots 15 = .ok (.iload_n 1, 1) := by decide +kernel
theorem dX5_fillSlots_16 : decode cX5_fillSlots 16 = .ok (.if_icmp .lt 14, 3) := by decide +kernel
theorem dX5_fillSlots_19 : decode cX5_fillSlots 19 = .ok (.iload 5, 2) := by decide +kernel
theorem dX5_fillSlots_21 : decode cX5_fillSlots 21 = .ok (.iload_n 2, 1) := by decide +kernel
theorem dX5_fillSlots_22 : decode cX5_fillSlots 22 = .ok (.if_icmp .gt 8, 3) := by decide +kernel
theorem dX5_fillSlots_25 : decode cX5_fillSlots 25 = .ok (.aload_n 0, 1) := by decide +kernel
theorem dX5_fillSlots_26 : decode cX5_fillSlots 26 = .ok (.iload 5, 2) := by decide +kernel
theorem dX5_fillSlots_28 : decode cX5_fillSlots 28 = .ok (.iload_n 3, 1) := by decide +kernel
theorem dX5_fillSlots_29 : decode cX5_fillSlots 29 = .ok (.iastore, 1) := by decide +kernel
theorem dX5_fillSlots_30 : decode cX5_fillSlots 30 = .ok (.iload 4, 2) := by decide +kernel
theorem dX5_fillSlots_32 : decode cX5_fillSlots 32 = .ok (.aload_n 0, 1) := by decide +kernel
theorem dX5_fillSlots_33 : decode cX5_fillSlots 33 = .ok (.iload 5, 2) := by decide +kernel
theorem dX5_fillSlots_35 : decode cX5_fillSlots 35 = .ok (.iaload, 1) := by decide +kernel
theorem dX5_fillSlots_36 : decode cX5_fillSlots 36 = .ok (.iadd, 1) := by decide +kernel
theorem dX5_fillSlots_37 : decode cX5_fillSlots 37 = .ok (.istore 4, 2) := by decide +kernel
theorem dX5_fillSlots_39 : decode cX5_fillSlots 39 = .ok (.iinc 5 1, 3) := by decide +kernel
theorem dX5_fillSlots_42 : decode cX5_fillSlots 42 = .ok (.goto (-36), 3) := by decide +kernel
theorem dX5_fillSlots_45 : decode cX5_fillSlots 45 = .ok (.iload 4, 2) := by decide +kernel
theorem dX5_fillSlots_47 : decode cX5_fillSlots 47 = .ok (.ireturn, 1) := by decide +kernel
theorem dX5_slotOf_0 : decode cX5_slotOf 0 = .ok (.iload_n 0, 1) := by decide +kernel
theorem dX5_slotOf_1 : decode cX5_slotOf 1 = .ok (.bipush 48, 2) := by decide +kernel
theorem dX5_slotOf_3 : decode cX5_slotOf 3 = .ok (.invokestatic 253, 3) := by decide +kernel
theorem dX5_slotOf_6 : decode cX5_slotOf 6 = .ok (.ireturn, 1) := by decide +kernel
theorem dX5_passPresent_0 : decode cX5_passPresent 0 = .ok (.aload_n 0, 1) := by decide +kernel
theorem dX5_passPresent_1 : decode cX5_passPresent 1 = .ok (.getfield 19, 3) := by decide +kernel
theorem dX5_passPresent_4 : decode cX5_passPresent 4 = .ok (.aload_n 0, 1) := by decide +kernel
theorem dX5_passPresent_5 : decode cX5_passPresent 5 = .ok (.getfield 10, 3) := by decide +kernel
theorem dX5_passPresent_8 : decode cX5_passPresent 8 = .ok (.aload_n 0, 1) := by decide +kernel
theorem dX5_passPresent_9 : decode cX5_passPresent 9 = .ok (.getfield 50, 3) := by decide +kernel
theorem dX5_passPresent_12 : decode cX5_passPresent 12 = .ok (.invokestatic 256, 3) := by decide +kernel
theorem dX5_passPresent_15 : decode cX5_passPresent 15 = .ok (.iload_n 1, 1) := by decide +kernel
theorem dX5_passPresent_16 : decode cX5_passPresent 16 = .ok (.invokevirtual 259, 3) := by decide +kernel
theorem dX5_passPresent_19 : decode cX5_passPresent 19 = .ok (.aload_n 0, 1) := by decide +kernel
theorem dX5_passPresent_20 : decode cX5_passPresent 20 = .ok (.getfield 42, 3) := by decide +kernel
theorem dX5_passPresent_23 : decode cX5_passPresent 23 = .ok (.aload_n 0, 1) := by decide +kernel
theorem dX5_passPresent_24 : decode cX5_passPresent 24 = .ok (.getfield 19, 3) := by decide +kernel
theorem dX5_passPresent_27 : decode cX5_passPresent 27 = .ok (.invokevirtual 263, 3) := by decide +kernel
theorem dX5_passPresent_30 : decode cX5_passPresent 30 = .ok (.aload_n 0, 1) := by decide +kernel
theorem dX5_passPresent_31 : decode cX5_passPresent 31 = .ok (.getfield 26, 3) := by decide +kernel
theorem dX5_passPresent_34 : decode cX5_passPresent 34 = .ok (.aload_n 0, 1) := by decide +kernel
theorem dX5_passPresent_35 : decode cX5_passPresent 35 = .ok (.getfield 50, 3) := by decide +kernel
theorem dX5_passPresent_38 : decode cX5_passPresent 38 = .ok (.invokevirtual 190, 3) := by decide +kernel
theorem dX5_passPresent_41 : decode cX5_passPresent 41 = .ok (.aload_n 0, 1) := by decide +kernel
theorem dX5_passPresent_42 : decode cX5_passPresent 42 = .ok (.dup, 1) := by decide +kernel
theorem dX5_passPresent_43 : decode cX5_passPresent 43 = .ok (.getfield 50, 3) := by decide +kernel
theorem dX5_passPresent_46 : decode cX5_passPresent 46 = .ok (.iconst 1, 1) := by decide +kernel
theorem dX5_passPresent_47 : decode cX5_passPresent 47 = .ok (.iadd, 1) := by decide +kernel
theorem dX5_passPresent_48 : decode cX5_passPresent 48 = .ok (.putfield 50, 3) := by decide +kernel
theorem dX5_passPresent_51 : decode cX5_passPresent 51 = .ok (.return_, 1) := by decide +kernel
theorem dX6_init_0 : decode cX6_init 0 = .ok (.aload_n 0, 1) := by decide +kernel
theorem dX6_init_1 : decode cX6_init 1 = .ok (.invokespecial 3, 3) := by decide +kernel
theorem dX6_init_4 : decode cX6_init 4 = .ok (.aload_n 0, 1) := by decide +kernel
theorem dX6_init_5 : decode cX6_init 5 = .ok (.bipush 15, 2) := by decide +kernel
theorem dX6_init_7 : decode cX6_init 7 = .ok (.newarray .int, 2) := by decide +kernel
theorem dX6_init_9 : decode cX6_init 9 = .ok (.putfield 9, 3) := by decide +kernel
theorem dX6_init_12 : decode cX6_init 12 = .ok (.aload_n 0, 1) := by decide +kernel
theorem dX6_init_13 : decode cX6_init 13 = .ok (.bipush 15, 2) := by decide +kernel
theorem dX6_init_15 : decode cX6_init 15 = .ok (.newarray .int, 2) := by decide +kernel
theorem dX6_init_17 : decode cX6_init 17 = .ok (.putfield 13, 3) := by decide +kernel
theorem dX6_init_20 : decode cX6_init 20 = .ok (.aload_n 0, 1) := by decide +kernel
theorem dX6_init_21 : decode cX6_init 21 = .ok (.iconst 4, 1) := by decide +kernel
theorem dX6_init_22 : decode cX6_init 22 = .ok (.newarray .int, 2) := by decide +kernel
theorem dX6_init_24 : decode cX6_init 24 = .ok (.putfield 16, 3) := by decide +kernel
theorem dX6_init_27 : decode cX6_init 27 = .ok (.aload_n 0, 1) := by decide +kernel
theorem dX6_init_28 : decode cX6_init 28 = .ok (.iconst 4, 1) := by decide +kernel
theorem dX6_init_29 : decode cX6_init 29 = .ok (.newarray .int, 2) := by decide +kernel
theorem dX6_init_31 : decode cX6_init 31 = .ok (.putfield 19, 3) := by decide +kernel
theorem dX6_init_34 : decode cX6_init 34 = .ok (.aload_n 0, 1) := by decide +kernel
theorem dX6_init_35 : decode cX6_init 35 = .ok (.iconst 3, 1) := by decide +kernel
theorem dX6_init_36 : decode cX6_init 36 = .ok (.newarray .int, 2) := by decide +kernel
theorem dX6_init_38 : decode cX6_init 38 = .ok (.putfield 22, 3) := by decide +kernel
theorem dX6_init_41 : decode cX6_init 41 = .ok (.aload_n 0, 1) := by decide +kernel
theorem dX6_init_42 : decode cX6_init 42 = .ok (.sipush 144, 3) := by decide +kernel
theorem dX6_init_45 : decode cX6_init 45 = .ok (.newarray .int, 2) := by decide +kernel
theorem dX6_init_47 : decode cX6_init 47 = .ok (.putfield 25, 3) := by decide +kernel
theorem dX6_init_50 : decode cX6_init 50 = .ok (.aload_n 0, 1) := by decide +kernel
theorem dX6_init_51 : decode cX6_init 51 = .ok (.iconst 3, 1) := by decide +kernel
theorem dX6_init_52 : decode cX6_init 52 = .ok (.newarray .int, 2) := by decide +kernel
theorem dX6_init_54 : decode cX6_init 54 = .ok (.putfield 28, 3) := by decide +kernel
theorem dX6_init_57 : decode cX6_init 57 = .ok (.aload_n 0, 1) := by decide +kernel
theorem dX6_init_58 : decode cX6_init 58 = .ok (.bipush 48, 2) := by decide +kernel
theorem dX6_init_60 : decode cX6_init 60 = .ok (.newarray .int, 2) := by decide +kernel
theorem dX6_init_62 : decode cX6_init 62 = .ok (.dup, 1) := by decide +kernel
theorem dX6_init_63 : decode cX6_init 63 = .ok (.iconst 0, 1) := by decide +kernel
theorem dX6_init_64 : decode cX6_init 64 = .ok (.iconst 1, 1) := by decide +kernel
theorem dX6_init_65 : decode cX6_init 65 = .ok (.iastore, 1) := by decide +kernel
theorem dX6_init_66 : decode cX6_init 66 = .ok (.dup, 1) := by decide +kernel
theorem dX6_init_67 : decode cX6_init 67 = .ok (.iconst 1, 1) := by decide +kernel
theorem dX6_init_68 : decode cX6_init 68 = .ok (.iconst 1, 1) := by decide +kernel
theorem dX6_init_69 : decode cX6_init 69 = .ok (.iastore, 1) := by decide +kernel
theorem dX6_init_70 : decode cX6_init 70 = .ok (.dup, 1) := by decide +kernel
theorem dX6_init_71 : decode cX6_init 71 = .ok (.iconst 2, 1) := by decide +kernel
theorem dX6_init_72 : decode cX6_init 72 = .ok (.iconst 1, 1) := by decide +kernel
theorem dX6_init_73 : decode cX6_init 73 = .ok (.iastore, 1) := by decide +kernel
theorem dX6_init_74 : decode cX6_init 74 = .ok (.dup, 1) := by decide +kernel
theorem dX6_init_75 : decode cX6_init 75 = .ok (.iconst 3, 1) := by decide +kernel
theorem dX6_init_76 : decode cX6_init 76 = .ok (.iconst 1, 1) := by decide +kernel
theorem dX6_init_77 : decode cX6_init 77 = .ok (.iastore, 1) := by decide +kernel
theorem dX6_init_78 : decode cX6_init 78 = .ok (.dup, 1) := by decide +kernel
theorem dX6_init_79 : decode cX6_init 79 = .ok (.iconst 4, 1) := by decide +kernel
theorem dX6_init_80 : decode cX6_init 80 = .ok (.iconst 1, 1) := by decide +kernel
theorem dX6_init_81 : decode cX6_init 81 = .ok (.iastore, 1) := by decide +kernel
theorem dX6_init_82 : decode cX6_init 82 = .ok (.dup, 1) := by decide +kernel
theorem dX6_init_83 : decode cX6_init 83 = .ok (.iconst 5, 1) := by decide +kernel
theorem dX6_init_84 : decode cX6_init 84 = .ok (.iconst 1, 1) := by decide +kernel
theorem dX6_init_85 : decode cX6_init 85 = .ok (.iastore, 1) := by decide +kernel
theorem dX6_init_86 : decode cX6_init 86 = .ok (.dup, 1) := by decide +kernel
theorem dX6_init_87 : decode cX6_init 87 = .ok (.bipush 6, 2) := by decide +kernel
theorem dX6_init_89 : decode cX6_init 89 = .ok (.iconst 1, 1) := by decide +kernel
theorem dX6_init_90 : decode cX6_init 90 = .ok (.iastore, 1) := by decide +kernel
theorem dX6_init_91 : decode cX6_init 91 = .ok (.dup, 1) := by decide +kernel
theorem dX6_init_92 : decode cX6_init 92 = .ok (.bipush 7, 2) := by decide +kernel
theorem dX6_init_94 : decode cX6_init 94 = .ok (.iconst 1, 1) := by decide +kernel
theorem dX6_init_95 : decode cX6_init 95 = .ok (.iastore, 1) := by decide +kernel
theorem dX6_init_96 : decode cX6_init 96 = .ok (.dup, 1) := by decide +kernel
theorem dX6_init_97 : decode cX6_init 97 = .ok (.bipush 8, 2) := by decide +kernel
theorem dX6_init_99 : decode cX6_init 99 = .ok (.iconst 1, 1) := by decide +kernel
theorem dX6_init_100 : decode cX6_init 100 = .ok (.iastore, 1) := by decide +kernel
theorem dX6_init_101 : decode cX6_init 101 = .ok (.dup, 1) := by decide +kernel
theorem dX6_init_102 : decode cX6_init 102 = .ok (.bipush 9, 2) := by decide +kernel
theorem dX6_init_104 : decode cX6_init 104 = .ok (.iconst 1, 1) := by decide +kernel
theorem dX6_init_105 : decode cX6_init 105 = .ok (.iastore, 1) := by decide +kernel
theorem dX6_init_106 : decode cX6_init 106 = .ok (.dup, 1) := by decide +kernel
theorem dX6_init_107 : decode cX6_init 107 = .ok (.bipush 10, 2) := by decide +kernel
theorem dX6_init_109 : decode cX6_init 109 = .ok (.iconst 1, 1) := by decide +kernel
theorem dX6_init_110 : decode cX6_init 110 = .ok (.iastore, 1) := by decide +kernel
theorem dX6_init_111 : decode cX6_init 111 = .ok (.dup, 1) := by decide +kernel
theorem dX6_init_112 : decode cX6_init 112 = .ok (.bipush 11, 2) := by decide +kernel
theorem dX6_init_114 : decode cX6_init 114 = .ok (.iconst 1, 1) := by decide +kernel
theorem dX6_init_115 : decode cX6_init 115 = .ok (.iastore, 1) := by decide +kernel
theorem dX6_init_116 : decode cX6_init 116 = .ok (.dup, 1) := by decide +kernel
theorem dX6_init_117 : decode cX6_init 117 = .ok (.bipush 12, 2) := by decide +kernel
theorem dX6_init_119 : decode cX6_init 119 = .ok (.iconst 1, 1) := by decide +kernel
theorem dX6_init_120 : decode cX6_init 120 = .ok (.iastore, 1) := by decide +kernel
theorem dX6_init_121 : decode cX6_init 121 = .ok (.dup, 1) := by decide +kernel
theorem dX6_init_122 : decode cX6_init 122 = .ok (.bipush 13, 2) := by decide +kernel
theorem dX6_init_124 : decode cX6_init 124 = .ok (.iconst 1, 1) := by decide +kernel
theorem dX6_init_125 : decode cX6_init 125 = .ok (.iastore, 1) := by decide +kernel
theorem dX6_init_126 : decode cX6_init 126 = .ok (.dup, 1) := by decide +kernel
theorem dX6_init_127 : decode cX6_init 127 = .ok (.bipush 14, 2) := by decide +kernel
theorem dX6_init_129 : decode cX6_init 129 = .ok (.iconst 1, 1) := by decide +kernel
theorem dX6_init_130 : decode cX6_init 130 = .ok (.iastore, 1) := by decide +kernel
theorem dX6_init_131 : decode cX6_init 131 = .ok (.dup, 1) := by decide +kernel
theorem dX6_init_132 : decode cX6_init 132 = .ok (.bipush 15, 2) := by decide +kernel
theorem dX6_init_134 : decode cX6_init 134 = .ok (.iconst 1, 1) := by decide +kernel
theorem dX6_init_135 : decode cX6_init 135 = .ok (.iastore, 1) := by decide +kernel
theorem dX6_init_136 : decode cX6_init 136 = .ok (.dup, 1) := by decide +kernel
theorem dX6_init_137 : decode cX6_init 137 = .ok (.bipush 16, 2) := by decide +kernel
theorem dX6_init_139 : decode cX6_init 139 = .ok (.iconst 1, 1) := by decide +kernel
theorem dX6_init_140 : decode cX6_init 140 = .ok (.iastore, 1) := by decide +kernel
theorem dX6_init_141 : decode cX6_init 141 = .ok (.dup, 1) := by decide +kernel
theorem dX6_init_142 : decode cX6_init 142 = .ok (.bipush 17, 2) := by decide +kernel
theorem dX6_init_144 : decode cX6_init 144 = .ok (.iconst 1, 1) := by decide +kernel
theorem dX6_init_145 : decode cX6_init 145 = .ok (.iastore, 1) := by decide +kernel
theorem dX6_init_146 : decode cX6_init 146 = .ok (.dup, 1) := by decide +kernel
theorem dX6_init_147 : decode cX6_init 147 = .ok (.bipush 18, 2) := by decide +kernel
theorem dX6_init_149 : decode cX6_init 149 = .ok (.iconst 1, 1) := by decide +kernel
theorem dX6_init_150 : decode cX6_init 150 = .ok (.iastore, 1) := by decide +kernel
theorem dX6_init_151 : decode cX6_init 151 = .ok (.dup, 1) := by decide +kernel
theorem dX6_init_152 : decode cX6_init 152 = .ok (.bipush 19, 2) := by decide +kernel
theorem dX6_init_154 : decode cX6_init 154 = .ok (.iconst 1, 1) := by decide +kernel
theorem dX6_init_155 : decode cX6_init 155 = .ok (.iastore, 1) := by decide +kernel
theorem dX6_init_156 : decode cX6_init 156 = .ok (.dup, 1) := by decide +kernel
theorem dX6_init_157 : decode cX6_init 157 = .ok (.bipush 20, 2) := by decide +kernel
theorem dX6_init_159 : decode cX6_init 159 = .ok (.iconst 1, 1) := by decide +kernel
theorem dX6_init_160 : decode cX6_init 160 = .ok (.iastore, 1) := by decide +kernel
theorem dX6_init_161 : decode cX6_init 161 = .ok (.dup, 1) := by decide +kernel
theorem dX6_init_162 : decode cX6_init 162 = .ok (.bipush 21, 2) := by decide +kernel
theorem dX6_init_164 : decode cX6_init 164 = .ok (.iconst 1, 1) := by decide +kernel
theorem dX6_init_165 : decode cX6_init 165 = .ok (.iastore, 1) := by decide +kernel
theorem dX6_init_166 : decode cX6_init 166 = .ok (.dup, 1) := by decide +kernel
theorem dX6_init_167 : decode cX6_init 167 = .ok (.bipush 22, 2) := by decide +kernel
theorem dX6_init_169 : decode cX6_init 169 = .ok (.iconst 1, 1) := by decide +kernel
theorem dX6_init_170 : decode cX6_init 170 = .ok (.iastore, 1) := by decide +kernel
theorem dX6_init_171 : decode cX6_init 171 = .ok (.dup, 1) := by decide +kernel
theorem dX6_init_172 : decode cX6_init 172 = .ok (.bipush 23, 2) := by decide +kernel
theorem dX6_init_174 : decode cX6_init 174 = .ok (.iconst 1, 1) := by decide +kernel
theorem dX6_init_175 : decode cX6_init 175 = .ok (.iastore, 1) := by decide +kernel
theorem dX6_init_176 : decode cX6_init 176 = .ok (.dup, 1) := by decide +kernel
theorem dX6_init_177 : decode cX6_init 177 = .ok (.bipush 24, 2) := by decide +kernel
theorem dX6_init_179 : decode cX6_init 179 = .ok (.iconst 1, 1) := by decide +kernel
theorem dX6_init_180 : decode cX6_init 180 = .ok (.iastore, 1) := by decide +kernel
theorem dX6_init_181 : decode cX6_init 181 = .ok (.dup, 1) := by decide +kernel
theorem dX6_init_182 : decode cX6_init 182 = .ok (.bipush 25, 2) := by decide +kernel
theorem dX6_init_184 : decode cX6_init 184 = .ok (.iconst 1, 1) := by decide +kernel
theorem dX6_init_185 : decode cX6_init 185 = .ok (.iastore, 1) := by decide +kernel
theorem dX6_init_186 : decode cX6_init 186 = .ok (.dup, 1) := by decide +kernel
theorem dX6_init_187 : decode cX6_init 187 = .ok (.bipush 26, 2) := by decide +kernel
theorem dX6_init_189 : decode cX6_init 189 = .ok (.iconst 1, 1) := by decide +kernel
theorem dX6_init_190 : decode cX6_init 190 = .ok (.iastore, 1) := by decide +kernel
theorem dX6_init_191 : decode cX6_init 191 = .ok (.dup, 1) := by decide +kernel
theorem dX6_init_192 : decode cX6_init 192 = .ok (.bipush 27, 2) := by decide +kernel
theorem dX6_init_194 : decode cX6_init 194 = .ok (.iconst 1, 1) := by decide +kernel
theorem dX6_init_195 : decode cX6_init 195 = .ok (.iastore, 1) := by decide +kernel
theorem dX6_init_196 : decode cX6_init 196 = .ok (.dup, 1) := by decide +kernel
theorem dX6_init_197 : decode cX6_init 197 = .ok (.bipush 28, 2) := by decide +kernel
theorem dX6_init_199 : decode cX6_init 199 = .ok (.iconst 1, 1) := by decide +kernel
theorem dX6_init_200 : decode cX6_init 200 = .ok (.iastore, 1) := by decide +kernel
theorem dX6_init_201 : decode cX6_init 201 = .ok (.dup, 1) := by decide +kernel
theorem dX6_init_202 : decode cX6_init 202 = .ok (.bipush 29, 2) := by decide +kernel
theorem dX6_init_204 : decode cX6_init 204 = .ok (.iconst 1, 1) := by decide +kernel
theorem dX6_init_205 : decode cX6_init 205 = .ok (.iastore, 1) := by decide +kernel
theorem dX6_init_206 : decode cX6_init 206 = .ok (.dup, 1) := by decide +kernel
theorem dX6_init_207 : decode cX6_init 207 = .ok (.bipush 30, 2) := by decide +kernel
theorem dX6_init_209 : decode cX6_init 209 = .ok (.iconst 1, 1) := by decide +kernel
theorem dX6_init_210 : decode cX6_init 210 = .ok (.iastore, 1) := by decide +kernel
theorem dX6_init_211 : decode cX6_init 211 = .ok (.dup, 1) := by decide +kernel
theorem dX6_init_212 : decode cX6_init 212 = .ok (.bipush 31, 2) := by decide +kernel
theorem dX6_init_214 : decode cX6_init 214 = .ok (.iconst 1, 1) := by decide +kernel
theorem dX6_init_215 : decode cX6_init 215 = .ok (.iastore, 1) := by decide +kernel
theorem dX6_init_216 : decode cX6_init 216 = .ok (.dup, 1) := by decide +kernel
theorem dX6_init_217 : decode cX6_init 217 = .ok (.bipush 32, 2) := by decide +kernel
theorem dX6_init_219 : decode cX6_init 219 = .ok (.iconst 1, 1) := by decide +kernel
theorem dX6_init_220 : decode cX6_init 220 = .ok (.iastore, 1) := by decide +kernel
theorem dX6_init_221 : decode cX6_init 221 = .ok (.dup, 1) := by decide +kernel
theorem dX6_init_222 : decode cX6_init 222 = .ok (.bipush 33, 2) := by decide +kernel
theorem dX6_init_224 : decode cX6_init 224 = .ok (.iconst 1, 1) := by decide +kernel
theorem dX6_init_225 : decode cX6_init 225 = .ok (.iastore, 1) := by decide +kernel
theorem dX6_init_226 : decode cX6_init 226 = .ok (.dup, 1) := by decide +kernel
theorem dX6_init_227 : decode cX6_init 227 = .ok (.bipush 34, 2) := by decide +kernel
theorem dX6_init_229 : decode cX6_init 229 = .ok (.iconst 1, 1) := by decide +kernel
theorem dX6_init_230 : decode cX6_init 230 = .ok (.iastore, 1) := by decide +kernel
theorem dX6_init_231 : decode cX6_init 231 = .ok (.dup, 1) := by decide +kernel
theorem dX6_init_232 : decode cX6_init 232 = .ok (.bipush 35, 2) := by decide +kernel
theorem dX6_init_234 : decode cX6_init 234 = .ok (.iconst 1, 1) := by decide +kernel
theorem dX6_init_235 : decode cX6_init 235 = .ok (.iastore, 1) := by decide +kernel
theorem dX6_init_236 : decode cX6_init 236 = .ok (.dup, 1) := by decide +kernel
theorem dX6_init_237 : decode cX6_init 237 = .ok (.bipush 36, 2) := by decide +kernel
theorem dX6_init_239 : decode cX6_init 239 = .ok (.iconst 1, 1) := by decide +kernel
theorem dX6_init_240 : decode cX6_init 240 = .ok (.iastore, 1) := by decide +kernel
theorem dX6_init_241 : decode cX6_init 241 = .ok (.dup, 1) := by decide +kernel
theorem dX6_init_242 : decode cX6_init 242 = .ok (.bipush 37, 2) := by decide +kernel
theorem dX6_init_244 : decode cX6_init 244 = .ok (.iconst 1, 1) := by decide +kernel
theorem dX6_init_245 : decode cX6_init 245 = .ok (.iastore, 1) := by decide +kernel
theorem dX6_init_246 : decode cX6_init 246 = .ok (.dup, 1) := by decide +kernel
theorem dX6_init_247 : decode cX6_init 247 = .ok (.bipush 38, 2) := by decide +kernel
theorem dX6_init_249 : decode cX6_init 249 = .ok (.iconst 1, 1) := by decide +kernel
theorem dX6_init_250 : decode cX6_init 250 = .ok (.iastore, 1) := by decide +kernel
theorem dX6_init_251 : decode cX6_init 251 = .ok (.dup, 1) := by decide +kernel
theorem dX6_init_252 : decode cX6_init 252 = .ok (.bipush 39, 2) := by decide +kernel
theorem dX6_init_254 : decode cX6_init 254 = .ok (.iconst 1, 1) := by decide +kernel
theorem dX6_init_255 : decode cX6_init 255 = .ok (.iastore, 1) := by decide +kernel
theorem dX6_init_256 : decode cX6_init 256 = .ok (.dup, 1) := by decide +kernel
theorem dX6_init_257 : decode cX6_init 257 = .ok (.bipush 40, 2) := by decide +kernel
theorem dX6_init_259 : decode cX6_init 259 = .ok (.iconst 1, 1) := by decide +kernel
theorem dX6_init_260 : decode cX6_init 260 = .ok (.iastore, 1) := by decide +kernel
theorem dX6_init_261 : decode cX6_init 261 = .ok (.dup, 1) := by decide +kernel
theorem dX6_init_262 : decode cX6_init 262 = .ok (.bipush 41, 2) := by decide +kernel
theorem dX6_init_264 : decode cX6_init 264 = .ok (.iconst 1, 1) := by decide +kernel
theorem dX6_init_265 : decode cX6_init 265 = .ok (.iastore, 1) := by decide +kernel
theorem dX6_init_266 : decode cX6_init 266 = .ok (.dup, 1) := by decide +kernel
theorem dX6_init_267 : decode cX6_init 267 = .ok (.bipush 42, 2) := by decide +kernel
theorem dX6_init_269 : decode cX6_init 269 = .ok (.iconst 1, 1) := by decide +kernel
theorem dX6_init_270 : decode cX6_init 270 = .ok (.iastore, 1) := by decide +kernel
theorem dX6_init_271 : decode cX6_init 271 = .ok (.dup, 1) := by decide +kernel
theorem dX6_init_272 : decode cX6_init 272 = .ok (.bipush 43, 2) := by decide +kernel
theorem dX6_init_274 : decode cX6_init 274 = .ok (.iconst 1, 1) := by decide +kernel
theorem dX6_init_275 : decode cX6_init 275 = .ok (.iastore, 1) := by decide +kernel
theorem dX6_init_276 : decode cX6_init 276 = .ok (.dup, 1) := by decide +kernel
theorem dX6_init_277 : decode cX6_init 277 = .ok (.bipush 44, 2) := by decide +kernel
theorem dX6_init_279 : decode cX6_init 279 = .ok (.iconst 1, 1) := by decide +kernel
theorem dX6_init_280 : decode cX6_init 280 = .ok (.iastore, 1) := by decide +kernel
theorem dX6_init_281 : decode cX6_init 281 = .ok (.dup, 1) := by decide +kernel
theorem dX6_init_282 : decode cX6_init 282 = .ok (.bipush 45, 2) := by decide +kernel
theorem dX6_init_284 : decode cX6_init 284 = .ok (.iconst 1, 1) := by decide +kernel
theorem dX6_init_285 : decode cX6_init 285 = .ok (.iastore, 1) := by decide +kernel
theorem dX6_init_286 : decode cX6_init 286 = .ok (.dup, 1) := by decide +kernel
theorem dX6_init_287 : decode cX6_init 287 = .ok (.bipush 46, 2) := by decide +kernel
theorem dX6_init_289 : decode cX6_init 289 = .ok (.iconst 1, 1) := by decide +kernel
theorem dX6_init_290 : decode cX6_init 290 = .ok (.iastore, 1) := by decide +kernel
theorem dX6_init_291 : decode cX6_init 291 = .ok (.dup, 1) := by decide +kernel
theorem dX6_init_292 : decode cX6_init 292 = .ok (.bipush 47, 2) := by decide +kernel
theorem dX6_init_294 : decode cX6_init 294 = .ok (.iconst 1, 1) := by decide +kernel
theorem dX6_init_295 : decode cX6_init 295 = .ok (.iastore, 1) := by decide +kernel
theorem dX6_init_296 : decode cX6_init 296 = .ok (.putfield 31, 3) := by decide +kernel
theorem dX6_init_299 : decode cX6_init 299 = .ok (.aload_n 0, 1) := by decide +kernel
theorem dX6_init_300 : decode cX6_init 300 = .ok (.bipush 25, 2) := by decide +kernel
theorem dX6_init_302 : decode cX6_init 302 = .ok (.putfield 34, 3) := by decide +kernel
theorem dX6_init_305 : decode cX6_init 305 = .ok (.aload_n 0, 1) := by decide +kernel
theorem dX6_init_306 : decode cX6_init 306 = .ok (.bipush 40, 2) := by decide +kernel
theorem dX6_init_308 : decode cX6_init 308 = .ok (.putfield 38, 3) := by decide +kernel
theorem dX6_init_311 : decode cX6_init 311 = .ok (.aload_n 0, 1) := by decide +kernel
theorem dX6_init_312 : decode cX6_init 312 = .ok (.iconst 4, 1) := by decide +kernel
theorem dX6_init_313 : decode cX6_init 313 = .ok (.putfield 41, 3) := by decide +kernel
theorem dX6_init_316 : decode cX6_init 316 = .ok (.aload_n 0, 1) := by decide +kernel
theorem dX6_init_317 : decode cX6_init 317 = .ok (.bipush 6, 2) := by decide +kernel
theorem dX6_init_319 : decode cX6_init 319 = .ok (.newarray .int, 2) := by decide +kernel
theorem dX6_init_321 : decode cX6_init 321 = .ok (.putfield 44, 3) := by decide +kernel
theorem dX6_init_324 : decode cX6_init 324 = .ok (.aload_n 0, 1) := by decide +kernel
theorem dX6_init_325 : decode cX6_init 325 = .ok (.bipush 6, 2) := by decide +kernel
theorem dX6_init_327 : decode cX6_init 327 = .ok (.newarray .boolean, 2) := by decide +kernel
theorem dX6_init_329 : decode cX6_init 329 = .ok (.putfield 47, 3) := by decide +kernel
theorem dX6_init_332 : decode cX6_init 332 = .ok (.aload_n 0, 1) := by decide +kernel
theorem dX6_init_333 : decode cX6_init 333 = .ok (.iconst 3, 1) := by decide +kernel
theorem dX6_init_334 : decode cX6_init 334 = .ok (.newarray .int, 2) := by decide +kernel
theorem dX6_init_336 : decode cX6_init 336 = .ok (.putfield 51, 3) := by decide +kernel
theorem dX6_init_339 : decode cX6_init 339 = .ok (.return_, 1) := by decide +kernel
theorem dX6_thrown_0 : decode cX6_thrown 0 = .ok (.aload_n 0, 1) := by decide +kernel
theorem dX6_thrown_1 : decode cX6_thrown 1 = .ok (.getfield 54, 3) := by decide +kernel
theorem dX6_thrown_4 : decode cX6_thrown 4 = .ok (.ireturn, 1) := by decide +kernel
theorem dX6_in_0 : decode cX6_in 0 = .ok (.lload_n 0, 1) := by decide +kernel
theorem dX6_in_1 : decode cX6_in 1 = .ok (.lload_n 2, 1) := by decide +kernel
theorem dX6_in_2 : decode cX6_in 2 = .ok (.lcmp, 1) := by decide +kernel
theorem dX6_in_3 : decode cX6_in 3 = .ok (.ifCond .lt 14, 3) := by decide +kernel
theorem dX6_in_6 : decode cX6_in 6 = .ok (.lload_n 0, 1) := by decide +kernel
theorem dX6_in_7 : decode cX6_in 7 = .ok (.lload 4, 2) := by decide +kernel
theorem dX6_in_9 : decode cX6_in 9 = .ok (.lcmp, 1) := by decide +kernel
theorem dX6_in_10 : decode cX6_in 10 = .ok (.ifCond .gt 7, 3) := by decide +kernel
theorem dX6_in_13 : decode cX6_in 13 = .ok (.iconst 1, 1) := by decide +kernel
theorem dX6_in_14 : decode cX6_in 14 = .ok (.goto 4, 3) := by decide +kernel
theorem dX6_in_17 : decode cX6_in 17 = .ok (.iconst 0, 1) := by decide +kernel
theorem dX6_in_18 : decode cX6_in 18 = .ok (.ireturn, 1) := by decide +kernel
theorem dX6_isTrain_0 : decode cX6_isTrain 0 = .ok (.iload_n 1, 1) := by decide +kernel
theorem dX6_isTrain_1 : decode cX6_isTrain 1 = .ok (.i2l, 1) := by decide +kernel
theorem dX6_isTrain_2 : decode cX6_isTrain 2 = .ok (.lconst 0, 1) := by decide +kernel
theorem dX6_isTrain_3 : decode cX6_isTrain 3 = .ok (.aload_n 0, 1) := by decide +kernel
theorem dX6_isTrain_4 : decode cX6_isTrain 4 = .ok (.getfield 57, 3) := by decide +kernel
theorem dX6_isTrain_7 : decode cX6_isTrain 7 = .ok (.iconst 1, 1) := by decide +kernel
theorem dX6_isTrain_8 : decode cX6_isTrain 8 = .ok (.isub, 1) := by decide +kernel
theorem dX6_isTrain_9 : decode cX6_isTrain 9 = .ok (.i2l, 1) := by decide +kernel
theorem dX6_isTrain_10 : decode cX6_isTrain 10 = .ok (.invokestatic 60, 3) := by decide +kernel
theorem dX6_isTrain_13 : decode cX6_isTrain 13 = .ok (.ireturn, 1) := by decide +kernel
theorem dX6_isTank_0 : decode cX6_isTank 0 = .ok (.iload_n 1, 1) := by decide +kernel
theorem dX6_isTank_1 : decode cX6_isTank 1 = .ok (.i2l, 1) := by decide +kernel
theorem dX6_isTank_2 : decode cX6_isTank 2 = .ok (.lconst 0, 1) := by decide +kernel
theorem dX6_isTank_3 : decode cX6_isTank 3 = .ok (.aload_n 0, 1) := by decide +kernel
theorem dX6_isTank_4 : decode cX6_isTank 4 = .ok (.getfield 64, 3) := by decide +kernel
theorem dX6_isTank_7 : decode cX6_isTank 7 = .ok (.iconst 1, 1) := by decide +kernel
theorem dX6_isTank_8 : decode cX6_isTank 8 = .ok (.isub, 1) := by decide +kernel
theorem dX6_isTank_9 : decode cX6_isTank 9 = .ok (.i2l, 1) := by decide +kernel
theorem dX6_isTank_10 : decode cX6_isTank 10 = .ok (.invokestatic 60, 3) := by decide +kernel
theorem dX6_isTank_13 : decode cX6_isTank 13 = .ok (.ireturn, 1) := by decide +kernel
theorem dX6_of_0 : decode cX6_of 0 = .ok (.aload_n 0, 1) := by decide +kernel
theorem dX6_of_1 : decode cX6_of 1 = .ok (.getfield 9, 3) := by decide +kernel
theorem dX6_of_4 : decode cX6_of 4 = .ok (.iconst 3, 1) := by decide +kernel
theorem dX6_of_5 : decode cX6_of 5 = .ok (.iload_n 1, 1) := by decide +kernel
theorem dX6_of_6 : decode cX6_of 6 = .ok (.imul, 1) := by decide +kernel
theorem dX6_of_7 : decode cX6_of 7 = .ok (.iload_n 2, 1) := by decide +kernel
theorem dX6_of_8 : decode cX6_of 8 = .ok (.iadd, 1) := by decide +kernel
theorem dX6_of_9 : decode cX6_of 9 = .ok (.iaload, 1) := by decide +kernel
theorem dX6_of_10 : decode cX6_of 10 = .ok (.ireturn, 1) := by decide +kernel
theorem dX6_addTrain_0 : decode cX6_addTrain 0 = .ok (.aload_n 0, 1) := by decide +kernel
theorem dX6_addTrain_1 : decode cX6_addTrain 1 = .ok (.iload_n 1, 1) := by decide +kernel
theorem dX6_addTrain_2 : decode cX6_addTrain 2 = .ok (.i2l, 1) := by decide +kernel
theorem dX6_addTrain_3 : decode cX6_addTrain 3 = .ok (.lconst 1, 1) := by decide +kernel
theorem dX6_addTrain_4 : decode cX6_addTrain 4 = .ok (.ldc2_w 67, 3) := by decide +kernel
theorem dX6_addTrain_7 : decode cX6_addTrain 7 = .ok (.invokestatic 60, 3) := by decide +kernel
theorem dX6_addTrain_10 : decode cX6_addTrain 10 = .ok (.ifCond .ne 7, 3) := by decide +kernel
theorem dX6_addTrain_13 : decode cX6_addTrain 13 = .ok (.iconst 1, 1) := by decide +kernel
theorem dX6_addTrain_14 : decode cX6_addTrain 14 = .ok (.goto 16, 3) := by decide +kernel
theorem dX6_addTrain_17 : decode cX6_addTrain 17 = .ok (.aload_n 0, 1) := by decide +kernel
theorem dX6_addTrain_18 : decode cX6_addTrain 18 = .ok (.getfield 57, 3) := by decide +kernel
theorem dX6_addTrain_21 : decode cX6_addTrain 21 = .ok (.iconst 4, 1) := by decide +kernel
theorem dX6_addTrain_22 : decode cX6_addTrain 22 = .ok (.if_icmp .ne 7, 3) := by decide +kernel
theorem dX6_addTrain_25 : decode cX6_addTrain 25 = .ok (.iconst 2, 1) := by decide +kernel
theorem dX6_addTrain_26 : decode cX6_addTrain 26 = .ok (.goto 4, 3) := by decide +kernel
theorem dX6_addTrain_29 : decode cX6_addTrain 29 = .ok (.iconst 0, 1) := by decide +kernel
theorem dX6_addTrain_30 : decode cX6_addTrain 30 = .ok (.putfield 54, 3) := by decide +kernel
theorem dX6_addTrain_33 : decode cX6_addTrain 33 = .ok (.aload_n 0, 1) := by decide +kernel
theorem dX6_addTrain_34 : decode cX6_addTrain 34 = .ok (.getfield 54, 3) := by decide +kernel
theorem dX6_addTrain_37 : decode cX6_addTrain 37 = .ok (.ifCond .le 5, 3) := by decide +kernel
theorem dX6_addTrain_40 : decode cX6_addTrain 40 = .ok (.iconst (-1), 1) := by decide +kernel
theorem dX6_addTrain_41 : decode cX6_addTrain 41 = .ok (.ireturn, 1) := by decide +kernel
theorem dX6_addTrain_42 : decode cX6_addTrain 42 = .ok (.aload_n 0, 1) := by decide +kernel
theorem dX6_addTrain_43 : decode cX6_addTrain 43 = .ok (.getfield 16, 3) := by decide +kernel
theorem dX6_addTrain_46 : decode cX6_addTrain 46 = .ok (.aload_n 0, 1) := by decide +kernel
theorem dX6_addTrain_47 : decode cX6_addTrain 47 = .ok (.getfield 57, 3) := by decide +kernel
theorem dX6_addTrain_50 : decode cX6_addTrain 50 = .ok (.iload_n 1, 1) := by decide +kernel
theorem dX6_addTrain_51 : decode cX6_addTrain 51 = .ok (.iastore, 1) := by decide +kernel
theorem dX6_addTrain_52 : decode cX6_addTrain 52 = .ok (.aload_n 0, 1) := by decide +kernel
theorem dX6_addTrain_53 : decode cX6_addTrain 53 = .ok (.getfield 19, 3) := by decide +kernel
theorem dX6_addTrain_56 : decode cX6_addTrain 56 = .ok (.aload_n 0, 1) := by decide +kernel
theorem dX6_addTrain_57 : decode cX6_addTrain 57 = .ok (.getfield 57, 3) := by decide +kernel
theorem dX6_addTrain_60 : decode cX6_addTrain 60 = .ok (.bipush 50, 2) := by decide +kernel
theorem dX6_addTrain_62 : decode cX6_addTrain 62 = .ok (.iastore, 1) := by decide +kernel
theorem dX6_addTrain_63 : decode cX6_addTrain 63 = .ok (.aload_n 0, 1) := by decide +kernel
theorem dX6_addTrain_64 : decode cX6_addTrain 64 = .ok (.dup, 1) := by decide +kernel
theorem dX6_addTrain_65 : decode cX6_addTrain 65 = .ok (.getfield 57, 3) := by decide +kernel
theorem dX6_addTrain_68 : decode cX6_addTrain 68 = .ok (.iconst 1, 1) := by decide +kernel
theorem dX6_addTrain_69 : decode cX6_addTrain 69 = .ok (.iadd, 1) := by decide +kernel
theorem dX6_addTrain_70 : decode cX6_addTrain 70 = .ok (.putfield 57, 3) := by decide +kernel
theorem dX6_addTrain_73 : decode cX6_addTrain 73 = .ok (.aload_n 0, 1) := by decide +kernel
theorem dX6_addTrain_74 : decode cX6_addTrain 74 = .ok (.getfield 57, 3) := by decide +kernel
theorem dX6_addTrain_77 : decode cX6_addTrain 77 = .ok (.iconst 1, 1) := by decide +kernel
theorem dX6_addTrain_78 : decode cX6_addTrain 78 = .ok (.isub, 1) := by decide +kernel
theorem dX6_addTrain_79 : decode cX6_addTrain 79 = .ok (.ireturn, 1) := by decide +kernel
theorem dX6_setPressure_0 : decode cX6_setPressure 0 = .ok (.aload_n 0, 1) := by decide +kernel
theorem dX6_setPressure_1 : decode cX6_setPressure 1 = .ok (.aload_n 0, 1) := by decide +kernel
theorem dX6_setPressure_2 : decode cX6_setPressure 2 = .ok (.iload_n 1, 1) := by decide +kernel
theorem dX6_setPressure_3 : decode cX6_setPressure 3 = .ok (.invokevirtual 69, 3) := by decide +kernel
theorem dX6_setPressure_6 : decode cX6_setPressure 6 = .ok (.ifCond .ne 7, 3) := by decide +kernel
theorem dX6_setPressure_9 : decode cX6_setPressure 9 = .ok (.iconst 1, 1) := by decide +kernel
theorem dX6_setPressure_10 : decode cX6_setPressure 10 = .ok (.goto 22, 3) := by decide +kernel
theorem dX6_setPressure_13 : decode cX6_setPressure 13 = .ok (.iload_n 2, 1) := by decide +kernel
theorem dX6_setPressure_14 : decode cX6_setPressure 14 = .ok (.i2l, 1) := by decide +kernel
theorem dX6_setPressure_15 : decode cX6_setPressure 15 = .ok (.ldc2_w 73, 3) := by decide +kernel
theorem dX6_setPressure_18 : decode cX6_setPressure 18 = .ok (.ldc2_w 75, 3) := by decide +kernel
theorem dX6_setPressure_21 : decode cX6_setPressure 21 = .ok (.invokestatic 60, 3) := by decide +kernel
theorem dX6_setPressure_24 : decode cX6_setPressure 24 = .ok (.ifCond .ne 7, 3) := by decide +kernel
theorem dX6_setPressure_27 : decode cX6_setPressure 27 = .ok (.iconst 2, 1) := by decide +kernel
theorem dX6_setPressure_28 : decode cX6_setPressure 28 = .ok (.goto 4, 3) := by decide +kernel
theorem dX6_setPressure_31 : decode cX6_setPressure 31 = .ok (.iconst 0, 1) := by decide +kernel
theorem dX6_setPressure_32 : decode cX6_setPressure 32 = .ok (.putfield 54, 3) := by decide +kernel
theorem dX6_setPressure_35 : decode cX6_setPressure 35 = .ok (.aload_n 0, 1) := by decide +kernel
theorem dX6_setPressure_36 : decode cX6_setPressure 36 = .ok (.getfield 54, 3) := by decide +kernel
theorem dX6_setPressure_39 : decode cX6_setPressure 39 = .ok (.ifCond .le 5, 3) := by decide +kernel
theorem dX6_setPressure_42 : decode cX6_setPressure 42 = .ok (.iconst (-1), 1) := by decide +kernel
theorem dX6_setPressure_43 : decode cX6_setPressure 43 = .ok (.ireturn, 1) := by decide +kernel
theorem dX6_setPressure_44 : decode cX6_setPressure 44 = .ok (.aload_n 0, 1) := by decide +kernel
theorem dX6_setPressure_45 : decode cX6_setPressure 45 = .ok (.getfield 19, 3) := by decide +kernel
theorem dX6_setPressure_48 : decode cX6_setPressure 48 = .ok (.iload_n 1, 1) := by decide +kernel
theorem dX6_setPressure_49 : decode cX6_setPressure 49 = .ok (.iaload, 1) := by decide +kernel
theorem dX6_setPressure_50 : decode cX6_setPressure 50 = .ok (.istore_n 3, 1) := by decide +kernel
theorem dX6_setPressure_51 : decode cX6_setPressure 51 = .ok (.aload_n 0, 1) := by decide +kernel
theorem dX6_setPressure_52 : decode cX6_setPressure 52 = .ok (.getfield 19, 3) := by decide +kernel
theorem dX6_setPressure_55 : decode cX6_setPressure 55 = .ok (.iload_n 1, 1) := by decide +kernel
theorem dX6_setPressure_56 : decode cX6_setPressure 56 = .ok (.iload_n 2, 1) := by decide +kernel
theorem dX6_setPressure_57 : decode cX6_setPressure 57 = .ok (.iastore, 1) := by decide +kernel
theorem dX6_setPressure_58 : decode cX6_setPressure 58 = .ok (.iload_n 3, 1) := by decide +kernel
theorem dX6_setPressure_59 : decode cX6_setPressure 59 = .ok (.ireturn, 1) := by decide +kernel
theorem dX6_setSalinity_0 : decode cX6_setSalinity 0 = .ok (.aload_n 0, 1) := by decide +kernel
end
section
theorem dX6_setSalinity_1 : decode cX6_setSalinity 1 = .ok (.iload_n 1, 1) := by decide +kernel
theorem dX6_setSalinity_2 : decode cX6_setSalinity 2 = .ok (.i2l, 1) := by decide +kernel
theorem dX6_setSalinity_3 : decode cX6_setSalinity 3 = .ok (.ldc2_w 67, 3) := by decide +kernel
theorem dX6_setSalinity_6 : decode cX6_setSalinity 6 = .ok (.ldc2_w 77, 3) := by decide +kernel
theorem dX6_setSalinity_9 : decode cX6_setSalinity 9 = .ok (.invokestatic 60, 3) := by decide +kernel
theorem dX6_setSalinity_12 : decode cX6_setSalinity 12 = .ok (.ifCond .eq 7, 3) := by decide +kernel
theorem dX6_setSalinity_15 : decode cX6_setSalinity 15 = .ok (.iconst 0, 1) := by decide +kernel
theorem dX6_setSalinity_16 : decode cX6_setSalinity 16 = .ok (.goto 4, 3) := by decide +kernel
theorem dX6_setSalinity_19 : decode cX6_setSalinity 19 = .ok (.iconst 1, 1) := by decide +kernel
theorem dX6_setSalinity_20 : decode cX6_setSalinity 20 = .ok (.putfield 54, 3) := by decide +kernel
theorem dX6_setSalinity_23 : decode cX6_setSalinity 23 = .ok (.aload_n 0, 1) := by decide +kernel
theorem dX6_setSalinity_24 : decode cX6_setSalinity 24 = .ok (.getfield 34, 3) := by decide +kernel
theorem dX6_setSalinity_27 : decode cX6_setSalinity 27 = .ok (.istore_n 2, 1) := by decide +kernel
theorem dX6_setSalinity_28 : decode cX6_setSalinity 28 = .ok (.aload_n 0, 1) := by decide +kernel
theorem dX6_setSalinity_29 : decode cX6_setSalinity 29 = .ok (.aload_n 0, 1) := by decide +kernel
theorem dX6_setSalinity_30 : decode cX6_setSalinity 30 = .ok (.getfield 54, 3) := by decide +kernel
theorem dX6_setSalinity_33 : decode cX6_setSalinity 33 = .ok (.ifCond .ne 7, 3) := by decide +kernel
theorem dX6_setSalinity_36 : decode cX6_setSalinity 36 = .ok (.iload_n 1, 1) := by decide +kernel
theorem dX6_setSalinity_37 : decode cX6_setSalinity 37 = .ok (.goto 4, 3) := by decide +kernel
theorem dX6_setSalinity_40 : decode cX6_setSalinity 40 = .ok (.iload_n 2, 1) := by decide +kernel
theorem dX6_setSalinity_41 : decode cX6_setSalinity 41 = .ok (.putfield 34, 3) := by decide +kernel
theorem dX6_setSalinity_44 : decode cX6_setSalinity 44 = .ok (.aload_n 0, 1) := by decide +kernel
theorem dX6_setSalinity_45 : decode cX6_setSalinity 45 = .ok (.getfield 54, 3) := by decide +kernel
theorem dX6_setSalinity_48 : decode cX6_setSalinity 48 = .ok (.ifCond .ne 7, 3) := by decide +kernel
theorem dX6_setSalinity_51 : decode cX6_setSalinity 51 = .ok (.iload_n 2, 1) := by decide +kernel
theorem dX6_setSalinity_52 : decode cX6_setSalinity 52 = .ok (.goto 4, 3) := by decide +kernel
theorem dX6_setSalinity_55 : decode cX6_setSalinity 55 = .ok (.iconst (-1), 1) := by decide +kernel
theorem dX6_setSalinity_56 : decode cX6_setSalinity 56 = .ok (.ireturn, 1) := by decide +kernel
theorem dX6_setRecovery_0 : decode cX6_setRecovery 0 = .ok (.aload_n 0, 1) := by decide +kernel
theorem dX6_setRecovery_1 : decode cX6_setRecovery 1 = .ok (.iload_n 1, 1) := by decide +kernel
theorem dX6_setRecovery_2 : decode cX6_setRecovery 2 = .ok (.i2l, 1) := by decide +kernel
theorem dX6_setRecovery_3 : decode cX6_setRecovery 3 = .ok (.ldc2_w 73, 3) := by decide +kernel
theorem dX6_setRecovery_6 : decode cX6_setRecovery 6 = .ok (.ldc2_w 79, 3) := by decide +kernel
theorem dX6_setRecovery_9 : decode cX6_setRecovery 9 = .ok (.invokestatic 60, 3) := by decide +kernel
theorem dX6_setRecovery_12 : decode cX6_setRecovery 12 = .ok (.ifCond .eq 7, 3) := by decide +kernel
theorem dX6_setRecovery_15 : decode cX6_setRecovery 15 = .ok (.iconst 0, 1) := by decide +kernel
theorem dX6_setRecovery_16 : decode cX6_setRecovery 16 = .ok (.goto 4, 3) := by decide +kernel
theorem dX6_setRecovery_19 : decode cX6_setRecovery 19 = .ok (.iconst 1, 1) := by decide +kernel
theorem dX6_setRecovery_20 : decode cX6_setRecovery 20 = .ok (.putfield 54, 3) := by decide +kernel
theorem dX6_setRecovery_23 : decode cX6_setRecovery 23 = .ok (.aload_n 0, 1) := by decide +kernel
theorem dX6_setRecovery_24 : decode cX6_setRecovery 24 = .ok (.getfield 38, 3) := by decide +kernel
theorem dX6_setRecovery_27 : decode cX6_setRecovery 27 = .ok (.istore_n 2, 1) := by decide +kernel
theorem dX6_setRecovery_28 : decode cX6_setRecovery 28 = .ok (.aload_n 0, 1) := by decide +kernel
theorem dX6_setRecovery_29 : decode cX6_setRecovery 29 = .ok (.aload_n 0, 1) := by decide +kernel
theorem dX6_setRecovery_30 : decode cX6_setRecovery 30 = .ok (.getfield 54, 3) := by decide +kernel
theorem dX6_setRecovery_33 : decode cX6_setRecovery 33 = .ok (.ifCond .ne 7, 3) := by decide +kernel
theorem dX6_setRecovery_36 : decode cX6_setRecovery 36 = .ok (.iload_n 1, 1) := by decide +kernel
theorem dX6_setRecovery_37 : decode cX6_setRecovery 37 = .ok (.goto 4, 3) := by decide +kernel
theorem dX6_setRecovery_40 : decode cX6_setRecovery 40 = .ok (.iload_n 2, 1) := by decide +kernel
theorem dX6_setRecovery_41 : decode cX6_setRecovery 41 = .ok (.putfield 38, 3) := by decide +kernel
theorem dX6_setRecovery_44 : decode cX6_setRecovery 44 = .ok (.aload_n 0, 1) := by decide +kernel
theorem dX6_setRecovery_45 : decode cX6_setRecovery 45 = .ok (.getfield 54, 3) := by decide +kernel
theorem dX6_setRecovery_48 : decode cX6_setRecovery 48 = .ok (.ifCond .ne 7, 3) := by decide +kernel
theorem dX6_setRecovery_51 : decode cX6_setRecovery 51 = .ok (.iload_n 2, 1) := by decide +kernel
theorem dX6_setRecovery_52 : decode cX6_setRecovery 52 = .ok (.goto 4, 3) := by decide +kernel
theorem dX6_setRecovery_55 : decode cX6_setRecovery 55 = .ok (.iconst (-1), 1) := by decide +kernel
theorem dX6_setRecovery_56 : decode cX6_setRecovery 56 = .ok (.ireturn, 1) := by decide +kernel
theorem dX6_clean_0 : decode cX6_clean 0 = .ok (.aload_n 0, 1) := by decide +kernel
theorem dX6_clean_1 : decode cX6_clean 1 = .ok (.aload_n 0, 1) := by decide +kernel
theorem dX6_clean_2 : decode cX6_clean 2 = .ok (.iload_n 1, 1) := by decide +kernel
theorem dX6_clean_3 : decode cX6_clean 3 = .ok (.invokevirtual 69, 3) := by decide +kernel
theorem dX6_clean_6 : decode cX6_clean 6 = .ok (.ifCond .ne 7, 3) := by decide +kernel
theorem dX6_clean_9 : decode cX6_clean 9 = .ok (.iconst 1, 1) := by decide +kernel
theorem dX6_clean_10 : decode cX6_clean 10 = .ok (.goto 44, 3) := by decide +kernel
theorem dX6_clean_13 : decode cX6_clean 13 = .ok (.aload_n 0, 1) := by decide +kernel
theorem dX6_clean_14 : decode cX6_clean 14 = .ok (.iload_n 1, 1) := by decide +kernel
theorem dX6_clean_15 : decode cX6_clean 15 = .ok (.iconst 2, 1) := by decide +kernel
theorem dX6_clean_16 : decode cX6_clean 16 = .ok (.invokevirtual 81, 3) := by decide +kernel
theorem dX6_clean_19 : decode cX6_clean 19 = .ok (.ifCond .le 7, 3) := by decide +kernel
theorem dX6_clean_22 : decode cX6_clean 22 = .ok (.iconst 2, 1) := by decide +kernel
theorem dX6_clean_23 : decode cX6_clean 23 = .ok (.goto 31, 3) := by decide +kernel
theorem dX6_clean_26 : decode cX6_clean 26 = .ok (.aload_n 0, 1) := by decide +kernel
theorem dX6_clean_27 : decode cX6_clean 27 = .ok (.getfield 64, 3) := by decide +kernel
theorem dX6_clean_30 : decode cX6_clean 30 = .ok (.ifCond .eq 19, 3) := by decide +kernel
theorem dX6_clean_33 : decode cX6_clean 33 = .ok (.aload_n 0, 1) := by decide +kernel
theorem dX6_clean_34 : decode cX6_clean 34 = .ok (.getfield 9, 3) := by decide +kernel
theorem dX6_clean_37 : decode cX6_clean 37 = .ok (.bipush 12, 2) := by decide +kernel
theorem dX6_clean_39 : decode cX6_clean 39 = .ok (.iaload, 1) := by decide +kernel
theorem dX6_clean_40 : decode cX6_clean 40 = .ok (.aload_n 0, 1) := by decide +kernel
theorem dX6_clean_41 : decode cX6_clean 41 = .ok (.getfield 16, 3) := by decide +kernel
theorem dX6_clean_44 : decode cX6_clean 44 = .ok (.iload_n 1, 1) := by decide +kernel
theorem dX6_clean_45 : decode cX6_clean 45 = .ok (.iaload, 1) := by decide +kernel
theorem dX6_clean_46 : decode cX6_clean 46 = .ok (.if_icmp .ge 7, 3) := by decide +kernel
theorem dX6_clean_49 : decode cX6_clean 49 = .ok (.iconst 3, 1) := by decide +kernel
theorem dX6_clean_50 : decode cX6_clean 50 = .ok (.goto 4, 3) := by decide +kernel
theorem dX6_clean_53 : decode cX6_clean 53 = .ok (.iconst 0, 1) := by decide +kernel
theorem dX6_clean_54 : decode cX6_clean 54 = .ok (.putfield 54, 3) := by decide +kernel
theorem dX6_clean_57 : decode cX6_clean 57 = .ok (.aload_n 0, 1) := by decide +kernel
theorem dX6_clean_58 : decode cX6_clean 58 = .ok (.getfield 54, 3) := by decide +kernel
theorem dX6_clean_61 : decode cX6_clean 61 = .ok (.ifCond .le 5, 3) := by decide +kernel
theorem dX6_clean_64 : decode cX6_clean 64 = .ok (.iconst (-1), 1) := by decide +kernel
theorem dX6_clean_65 : decode cX6_clean 65 = .ok (.ireturn, 1) := by decide +kernel
theorem dX6_clean_66 : decode cX6_clean 66 = .ok (.aload_n 0, 1) := by decide +kernel
theorem dX6_clean_67 : decode cX6_clean 67 = .ok (.getfield 9, 3) := by decide +kernel
theorem dX6_clean_70 : decode cX6_clean 70 = .ok (.bipush 12, 2) := by decide +kernel
theorem dX6_clean_72 : decode cX6_clean 72 = .ok (.dup2, 1) := by decide +kernel
theorem dX6_clean_73 : decode cX6_clean 73 = .ok (.iaload, 1) := by decide +kernel
theorem dX6_clean_74 : decode cX6_clean 74 = .ok (.aload_n 0, 1) := by decide +kernel
theorem dX6_clean_75 : decode cX6_clean 75 = .ok (.getfield 16, 3) := by decide +kernel
theorem dX6_clean_78 : decode cX6_clean 78 = .ok (.iload_n 1, 1) := by decide +kernel
theorem dX6_clean_79 : decode cX6_clean 79 = .ok (.iaload, 1) := by decide +kernel
theorem dX6_clean_80 : decode cX6_clean 80 = .ok (.isub, 1) := by decide +kernel
theorem dX6_clean_81 : decode cX6_clean 81 = .ok (.iastore, 1) := by decide +kernel
theorem dX6_clean_82 : decode cX6_clean 82 = .ok (.aload_n 0, 1) := by decide +kernel
theorem dX6_clean_83 : decode cX6_clean 83 = .ok (.getfield 9, 3) := by decide +kernel
theorem dX6_clean_86 : decode cX6_clean 86 = .ok (.iconst 3, 1) := by decide +kernel
theorem dX6_clean_87 : decode cX6_clean 87 = .ok (.iload_n 1, 1) := by decide +kernel
theorem dX6_clean_88 : decode cX6_clean 88 = .ok (.imul, 1) := by decide +kernel
theorem dX6_clean_89 : decode cX6_clean 89 = .ok (.iconst 2, 1) := by decide +kernel
theorem dX6_clean_90 : decode cX6_clean 90 = .ok (.iadd, 1) := by decide +kernel
theorem dX6_clean_91 : decode cX6_clean 91 = .ok (.iconst 2, 1) := by decide +kernel
theorem dX6_clean_92 : decode cX6_clean 92 = .ok (.aload_n 0, 1) := by decide +kernel
theorem dX6_clean_93 : decode cX6_clean 93 = .ok (.iload_n 1, 1) := by decide +kernel
theorem dX6_clean_94 : decode cX6_clean 94 = .ok (.iconst 0, 1) := by decide +kernel
theorem dX6_clean_95 : decode cX6_clean 95 = .ok (.invokevirtual 81, 3) := by decide +kernel
theorem dX6_clean_98 : decode cX6_clean 98 = .ok (.bipush 20, 2) := by decide +kernel
theorem dX6_clean_100 : decode cX6_clean 100 = .ok (.idiv, 1) := by decide +kernel
theorem dX6_clean_101 : decode cX6_clean 101 = .ok (.iadd, 1) := by decide +kernel
theorem dX6_clean_102 : decode cX6_clean 102 = .ok (.iastore, 1) := by decide +kernel
theorem dX6_clean_103 : decode cX6_clean 103 = .ok (.aload_n 0, 1) := by decide +kernel
theorem dX6_clean_104 : decode cX6_clean 104 = .ok (.iload_n 1, 1) := by decide +kernel
theorem dX6_clean_105 : decode cX6_clean 105 = .ok (.iconst 2, 1) := by decide +kernel
theorem dX6_clean_106 : decode cX6_clean 106 = .ok (.invokevirtual 81, 3) := by decide +kernel
theorem dX6_clean_109 : decode cX6_clean 109 = .ok (.ireturn, 1) := by decide +kernel
theorem dX6_fouling_0 : decode cX6_fouling 0 = .ok (.aload_n 0, 1) := by decide +kernel
theorem dX6_fouling_1 : decode cX6_fouling 1 = .ok (.aload_n 0, 1) := by decide +kernel
theorem dX6_fouling_2 : decode cX6_fouling 2 = .ok (.iload_n 1, 1) := by decide +kernel
theorem dX6_fouling_3 : decode cX6_fouling 3 = .ok (.invokevirtual 69, 3) := by decide +kernel
theorem dX6_fouling_6 : decode cX6_fouling 6 = .ok (.ifCond .eq 7, 3) := by decide +kernel
theorem dX6_fouling_9 : decode cX6_fouling 9 = .ok (.iconst 0, 1) := by decide +kernel
theorem dX6_fouling_10 : decode cX6_fouling 10 = .ok (.goto 4, 3) := by decide +kernel
theorem dX6_fouling_13 : decode cX6_fouling 13 = .ok (.iconst 1, 1) := by decide +kernel
theorem dX6_fouling_14 : decode cX6_fouling 14 = .ok (.putfield 54, 3) := by decide +kernel
theorem dX6_fouling_17 : decode cX6_fouling 17 = .ok (.aload_n 0, 1) := by decide +kernel
theorem dX6_fouling_18 : decode cX6_fouling 18 = .ok (.getfield 54, 3) := by decide +kernel
theorem dX6_fouling_21 : decode cX6_fouling 21 = .ok (.ifCond .ne 12, 3) := by decide +kernel
theorem dX6_fouling_24 : decode cX6_fouling 24 = .ok (.aload_n 0, 1) := by decide +kernel
theorem dX6_fouling_25 : decode cX6_fouling 25 = .ok (.iload_n 1, 1) := by decide +kernel
theorem dX6_fouling_26 : decode cX6_fouling 26 = .ok (.iconst 0, 1) := by decide +kernel
theorem dX6_fouling_27 : decode cX6_fouling 27 = .ok (.invokevirtual 81, 3) := by decide +kernel
theorem dX6_fouling_30 : decode cX6_fouling 30 = .ok (.goto 4, 3) := by decide +kernel
theorem dX6_fouling_33 : decode cX6_fouling 33 = .ok (.iconst (-1), 1) := by decide +kernel
theorem dX6_fouling_34 : decode cX6_fouling 34 = .ok (.ireturn, 1) := by decide +kernel
theorem dX6_wear_0 : decode cX6_wear 0 = .ok (.aload_n 0, 1) := by decide +kernel
theorem dX6_wear_1 : decode cX6_wear 1 = .ok (.aload_n 0, 1) := by decide +kernel
theorem dX6_wear_2 : decode cX6_wear 2 = .ok (.iload_n 1, 1) := by decide +kernel
theorem dX6_wear_3 : decode cX6_wear 3 = .ok (.invokevirtual 69, 3) := by decide +kernel
theorem dX6_wear_6 : decode cX6_wear 6 = .ok (.ifCond .eq 7, 3) := by decide +kernel
theorem dX6_wear_9 : decode cX6_wear 9 = .ok (.iconst 0, 1) := by decide +kernel
theorem dX6_wear_10 : decode cX6_wear 10 = .ok (.goto 4, 3) := by decide +kernel
theorem dX6_wear_13 : decode cX6_wear 13 = .ok (.iconst 1, 1) := by decide +kernel
theorem dX6_wear_14 : decode cX6_wear 14 = .ok (.putfield 54, 3) := by decide +kernel
theorem dX6_wear_17 : decode cX6_wear 17 = .ok (.aload_n 0, 1) := by decide +kernel
theorem dX6_wear_18 : decode cX6_wear 18 = .ok (.getfield 54, 3) := by decide +kernel
theorem dX6_wear_21 : decode cX6_wear 21 = .ok (.ifCond .ne 12, 3) := by decide +kernel
theorem dX6_wear_24 : decode cX6_wear 24 = .ok (.aload_n 0, 1) := by decide +kernel
theorem dX6_wear_25 : decode cX6_wear 25 = .ok (.iload_n 1, 1) := by decide +kernel
theorem dX6_wear_26 : decode cX6_wear 26 = .ok (.iconst 1, 1) := by decide +kernel
theorem dX6_wear_27 : decode cX6_wear 27 = .ok (.invokevirtual 81, 3) := by decide +kernel
theorem dX6_wear_30 : decode cX6_wear 30 = .ok (.goto 4, 3) := by decide +kernel
theorem dX6_wear_33 : decode cX6_wear 33 = .ok (.iconst (-1), 1) := by decide +kernel
theorem dX6_wear_34 : decode cX6_wear 34 = .ok (.ireturn, 1) := by decide +kernel
theorem dX6_cleaningLeft_0 : decode cX6_cleaningLeft 0 = .ok (.aload_n 0, 1) := by decide +kernel
theorem dX6_cleaningLeft_1 : decode cX6_cleaningLeft 1 = .ok (.aload_n 0, 1) := by decide +kernel
theorem dX6_cleaningLeft_2 : decode cX6_cleaningLeft 2 = .ok (.iload_n 1, 1) := by decide +kernel
theorem dX6_cleaningLeft_3 : decode cX6_cleaningLeft 3 = .ok (.invokevirtual 69, 3) := by decide +kernel
theorem dX6_cleaningLeft_6 : decode cX6_cleaningLeft 6 = .ok (.ifCond .eq 7, 3) := by decide +kernel
theorem dX6_cleaningLeft_9 : decode cX6_cleaningLeft 9 = .ok (.iconst 0, 1) := by decide +kernel
theorem dX6_cleaningLeft_10 : decode cX6_cleaningLeft 10 = .ok (.goto 4, 3) := by decide +kernel
theorem dX6_cleaningLeft_13 : decode cX6_cleaningLeft 13 = .ok (.iconst 1, 1) := by decide +kernel
theorem dX6_cleaningLeft_14 : decode cX6_cleaningLeft 14 = .ok (.putfield 54, 3) := by decide +kernel
theorem dX6_cleaningLeft_17 : decode cX6_cleaningLeft 17 = .ok (.aload_n 0, 1) := by decide +kernel
theorem dX6_cleaningLeft_18 : decode cX6_cleaningLeft 18 = .ok (.getfield 54, 3) := by decide +kernel
theorem dX6_cleaningLeft_21 : decode cX6_cleaningLeft 21 = .ok (.ifCond .ne 12, 3) := by decide +kernel
theorem dX6_cleaningLeft_24 : decode cX6_cleaningLeft 24 = .ok (.aload_n 0, 1) := by decide +kernel
theorem dX6_cleaningLeft_25 : decode cX6_cleaningLeft 25 = .ok (.iload_n 1, 1) := by decide +kernel
theorem dX6_cleaningLeft_26 : decode cX6_cleaningLeft 26 = .ok (.iconst 2, 1) := by decide +kernel
theorem dX6_cleaningLeft_27 : decode cX6_cleaningLeft 27 = .ok (.invokevirtual 81, 3) := by decide +kernel
theorem dX6_cleaningLeft_30 : decode cX6_cleaningLeft 30 = .ok (.goto 4, 3) := by decide +kernel
theorem dX6_cleaningLeft_33 : decode cX6_cleaningLeft 33 = .ok (.iconst (-1), 1) := by decide +kernel
theorem dX6_cleaningLeft_34 : decode cX6_cleaningLeft 34 = .ok (.ireturn, 1) := by decide +kernel
theorem dX6_gives_0 : decode cX6_gives 0 = .ok (.iconst 0, 1) := by decide +kernel
theorem dX6_gives_1 : decode cX6_gives 1 = .ok (.aload_n 0, 1) := by decide +kernel
theorem dX6_gives_2 : decode cX6_gives 2 = .ok (.getfield 16, 3) := by decide +kernel
theorem dX6_gives_5 : decode cX6_gives 5 = .ok (.iload_n 1, 1) := by decide +kernel
theorem dX6_gives_6 : decode cX6_gives 6 = .ok (.iaload, 1) := by decide +kernel
theorem dX6_gives_7 : decode cX6_gives 7 = .ok (.aload_n 0, 1) := by decide +kernel
theorem dX6_gives_8 : decode cX6_gives 8 = .ok (.getfield 19, 3) := by decide +kernel
theorem dX6_gives_11 : decode cX6_gives 11 = .ok (.iload_n 1, 1) := by decide +kernel
theorem dX6_gives_12 : decode cX6_gives 12 = .ok (.iaload, 1) := by decide +kernel
theorem dX6_gives_13 : decode cX6_gives 13 = .ok (.aload_n 0, 1) := by decide +kernel
theorem dX6_gives_14 : decode cX6_gives 14 = .ok (.getfield 34, 3) := by decide +kernel
theorem dX6_gives_17 : decode cX6_gives 17 = .ok (.isub, 1) := by decide +kernel
theorem dX6_gives_18 : decode cX6_gives 18 = .ok (.imul, 1) := by decide +kernel
theorem dX6_gives_19 : decode cX6_gives 19 = .ok (.bipush 100, 2) := by decide +kernel
theorem dX6_gives_21 : decode cX6_gives 21 = .ok (.aload_n 0, 1) := by decide +kernel
theorem dX6_gives_22 : decode cX6_gives 22 = .ok (.iload_n 1, 1) := by decide +kernel
theorem dX6_gives_23 : decode cX6_gives 23 = .ok (.iconst 0, 1) := by decide +kernel
theorem dX6_gives_24 : decode cX6_gives 24 = .ok (.invokevirtual 81, 3) := by decide +kernel
theorem dX6_gives_27 : decode cX6_gives 27 = .ok (.isub, 1) := by decide +kernel
theorem dX6_gives_28 : decode cX6_gives 28 = .ok (.imul, 1) := by decide +kernel
theorem dX6_gives_29 : decode cX6_gives 29 = .ok (.sipush 500, 3) := by decide +kernel
theorem dX6_gives_32 : decode cX6_gives 32 = .ok (.idiv, 1) := by decide +kernel
theorem dX6_gives_33 : decode cX6_gives 33 = .ok (.invokestatic 85, 3) := by decide +kernel
theorem dX6_gives_36 : decode cX6_gives 36 = .ok (.ireturn, 1) := by decide +kernel
theorem dX6_takes_0 : decode cX6_takes 0 = .ok (.aload_n 0, 1) := by decide +kernel
theorem dX6_takes_1 : decode cX6_takes 1 = .ok (.iload_n 1, 1) := by decide +kernel
theorem dX6_takes_2 : decode cX6_takes 2 = .ok (.invokevirtual 90, 3) := by decide +kernel
theorem dX6_takes_5 : decode cX6_takes 5 = .ok (.bipush 100, 2) := by decide +kernel
theorem dX6_takes_7 : decode cX6_takes 7 = .ok (.imul, 1) := by decide +kernel
theorem dX6_takes_8 : decode cX6_takes 8 = .ok (.aload_n 0, 1) := by decide +kernel
theorem dX6_takes_9 : decode cX6_takes 9 = .ok (.getfield 38, 3) := by decide +kernel
theorem dX6_takes_12 : decode cX6_takes 12 = .ok (.iadd, 1) := by decide +kernel
theorem dX6_takes_13 : decode cX6_takes 13 = .ok (.iconst 1, 1) := by decide +kernel
theorem dX6_takes_14 : decode cX6_takes 14 = .ok (.isub, 1) := by decide +kernel
theorem dX6_takes_15 : decode cX6_takes 15 = .ok (.aload_n 0, 1) := by decide +kernel
theorem dX6_takes_16 : decode cX6_takes 16 = .ok (.getfield 38, 3) := by decide +kernel
theorem dX6_takes_19 : decode cX6_takes 19 = .ok (.idiv, 1) := by decide +kernel
theorem dX6_takes_20 : decode cX6_takes 20 = .ok (.ireturn, 1) := by decide +kernel
theorem dX6_needs_0 : decode cX6_needs 0 = .ok (.aload_n 0, 1) := by decide +kernel
theorem dX6_needs_1 : decode cX6_needs 1 = .ok (.iload_n 1, 1) := by decide +kernel
theorem dX6_needs_2 : decode cX6_needs 2 = .ok (.invokevirtual 94, 3) := by decide +kernel
theorem dX6_needs_5 : decode cX6_needs 5 = .ok (.aload_n 0, 1) := by decide +kernel
theorem dX6_needs_6 : decode cX6_needs 6 = .ok (.getfield 19, 3) := by decide +kernel
theorem dX6_needs_9 : decode cX6_needs 9 = .ok (.iload_n 1, 1) := by decide +kernel
theorem dX6_needs_10 : decode cX6_needs 10 = .ok (.iaload, 1) := by decide +kernel
theorem dX6_needs_11 : decode cX6_needs 11 = .ok (.imul, 1) := by decide +kernel
theorem dX6_needs_12 : decode cX6_needs 12 = .ok (.bipush 19, 2) := by decide +kernel
theorem dX6_needs_14 : decode cX6_needs 14 = .ok (.iadd, 1) := by decide +kernel
theorem dX6_needs_15 : decode cX6_needs 15 = .ok (.bipush 20, 2) := by decide +kernel
theorem dX6_needs_17 : decode cX6_needs 17 = .ok (.idiv, 1) := by decide +kernel
theorem dX6_needs_18 : decode cX6_needs 18 = .ok (.ireturn, 1) := by decide +kernel
theorem dX6_productOf_0 : decode cX6_productOf 0 = .ok (.aload_n 0, 1) := by decide +kernel
theorem dX6_productOf_1 : decode cX6_productOf 1 = .ok (.aload_n 0, 1) := by decide +kernel
theorem dX6_productOf_2 : decode cX6_productOf 2 = .ok (.iload_n 1, 1) := by decide +kernel
theorem dX6_productOf_3 : decode cX6_productOf 3 = .ok (.invokevirtual 69, 3) := by decide +kernel
theorem dX6_productOf_6 : decode cX6_productOf 6 = .ok (.ifCond .ne 7, 3) := by decide +kernel
theorem dX6_productOf_9 : decode cX6_productOf 9 = .ok (.iconst 1, 1) := by decide +kernel
theorem dX6_productOf_10 : decode cX6_productOf 10 = .ok (.goto 17, 3) := by decide +kernel
theorem dX6_productOf_13 : decode cX6_productOf 13 = .ok (.aload_n 0, 1) := by decide +kernel
theorem dX6_productOf_14 : decode cX6_productOf 14 = .ok (.iload_n 1, 1) := by decide +kernel
theorem dX6_productOf_15 : decode cX6_productOf 15 = .ok (.iconst 2, 1) := by decide +kernel
theorem dX6_productOf_16 : decode cX6_productOf 16 = .ok (.invokevirtual 81, 3) := by decide +kernel
theorem dX6_productOf_19 : decode cX6_productOf 19 = .ok (.ifCond .le 7, 3) := by decide +kernel
theorem dX6_productOf_22 : decode cX6_productOf 22 = .ok (.iconst 2, 1) := by decide +kernel
theorem dX6_productOf_23 : decode cX6_productOf 23 = .ok (.goto 4, 3) := by decide +kernel
theorem dX6_productOf_26 : decode cX6_productOf 26 = .ok (.iconst 0, 1) := by decide +kernel
theorem dX6_productOf_27 : decode cX6_productOf 27 = .ok (.putfield 54, 3) := by decide +kernel
theorem dX6_productOf_30 : decode cX6_productOf 30 = .ok (.aload_n 0, 1) := by decide +kernel
theorem dX6_productOf_31 : decode cX6_productOf 31 = .ok (.getfield 54, 3) := by decide +kernel
theorem dX6_productOf_34 : decode cX6_productOf 34 = .ok (.ifCond .ne 11, 3) := by decide +kernel
theorem dX6_productOf_37 : decode cX6_productOf 37 = .ok (.aload_n 0, 1) := by decide +kernel
theorem dX6_productOf_38 : decode cX6_productOf 38 = .ok (.iload_n 1, 1) := by decide +kernel
theorem dX6_productOf_39 : decode cX6_productOf 39 = .ok (.invokevirtual 90, 3) := by decide +kernel
theorem dX6_productOf_42 : decode cX6_productOf 42 = .ok (.goto 4, 3) := by decide +kernel
theorem dX6_productOf_45 : decode cX6_productOf 45 = .ok (.iconst (-1), 1) := by decide +kernel
theorem dX6_productOf_46 : decode cX6_productOf 46 = .ok (.ireturn, 1) := by decide +kernel
theorem dX6_energyOf_0 : decode cX6_energyOf 0 = .ok (.aload_n 0, 1) := by decide +kernel
theorem dX6_energyOf_1 : decode cX6_energyOf 1 = .ok (.aload_n 0, 1) := by decide +kernel
theorem dX6_energyOf_2 : decode cX6_energyOf 2 = .ok (.iload_n 1, 1) := by decide +kernel
theorem dX6_energyOf_3 : decode cX6_energyOf 3 = .ok (.invokevirtual 69, 3) := by decide +kernel
theorem dX6_energyOf_6 : decode cX6_energyOf 6 = .ok (.ifCond .ne 7, 3) := by decide +kernel
theorem dX6_energyOf_9 : decode cX6_energyOf 9 = .ok (.iconst 1, 1) := by decide +kernel
theorem dX6_energyOf_10 : decode cX6_energyOf 10 = .ok (.goto 17, 3) := by decide +kernel
theorem dX6_energyOf_13 : decode cX6_energyOf 13 = .ok (.aload_n 0, 1) := by decide +kernel
theorem dX6_energyOf_14 : decode cX6_energyOf 14 = .ok (.iload_n 1, 1) := by decide +kernel
theorem dX6_energyOf_15 : decode cX6_energyOf 15 = .ok (.iconst 2, 1) := by decide +kernel
theorem dX6_energyOf_16 : decode cX6_energyOf 16 = .ok (.invokevirtual 81, 3) := by decide +kernel
theorem dX6_energyOf_19 : decode cX6_energyOf 19 = .ok (.ifCond .le 7, 3) := by decide +kernel
theorem dX6_energyOf_22 : decode cX6_energyOf 22 = .ok (.iconst 2, 1) := by decide +kernel
theorem dX6_energyOf_23 : decode cX6_energyOf 23 = .ok (.goto 4, 3) := by decide +kernel
theorem dX6_energyOf_26 : decode cX6_energyOf 26 = .ok (.iconst 0, 1) := by decide +kernel
theorem dX6_energyOf_27 : decode cX6_energyOf 27 = .ok (.putfield 54, 3) := by decide +kernel
theorem dX6_energyOf_30 : decode cX6_energyOf 30 = .ok (.aload_n 0, 1) := by decide +kernel
theorem dX6_energyOf_31 : decode cX6_energyOf 31 = .ok (.getfield 54, 3) := by decide +kernel
theorem dX6_energyOf_34 : decode cX6_energyOf 34 = .ok (.ifCond .ne 11, 3) := by decide +kernel
theorem dX6_energyOf_37 : decode cX6_energyOf 37 = .ok (.aload_n 0, 1) := by decide +kernel
theorem dX6_energyOf_38 : decode cX6_energyOf 38 = .ok (.iload_n 1, 1) := by decide +kernel
theorem dX6_energyOf_39 : decode cX6_energyOf 39 = .ok (.invokevirtual 97, 3) := by decide +kernel
theorem dX6_energyOf_42 : decode cX6_energyOf 42 = .ok (.goto 4, 3) := by decide +kernel
theorem dX6_energyOf_45 : decode cX6_energyOf 45 = .ok (.iconst (-1), 1) := by decide +kernel
theorem dX6_energyOf_46 : decode cX6_energyOf 46 = .ok (.ireturn, 1) := by decide +kernel
theorem dX6_readyTrains_0 : decode cX6_readyTrains 0 = .ok (.aload_n 0, 1) := by decide +kernel
theorem dX6_readyTrains_1 : decode cX6_readyTrains 1 = .ok (.iconst 0, 1) := by decide +kernel
theorem dX6_readyTrains_2 : decode cX6_readyTrains 2 = .ok (.putfield 54, 3) := by decide +kernel
theorem dX6_readyTrains_5 : decode cX6_readyTrains 5 = .ok (.iconst 0, 1) := by decide +kernel
theorem dX6_readyTrains_6 : decode cX6_readyTrains 6 = .ok (.istore_n 1, 1) := by decide +kernel
theorem dX6_readyTrains_7 : decode cX6_readyTrains 7 = .ok (.iconst 0, 1) := by decide +kernel
theorem dX6_readyTrains_8 : decode cX6_readyTrains 8 = .ok (.istore_n 2, 1) := by decide +kernel
theorem dX6_readyTrains_9 : decode cX6_readyTrains 9 = .ok (.iload_n 2, 1) := by decide +kernel
theorem dX6_readyTrains_10 : decode cX6_readyTrains 10 = .ok (.aload_n 0, 1) := by decide +kernel
theorem dX6_readyTrains_11 : decode cX6_readyTrains 11 = .ok (.getfield 57, 3) := by decide +kernel
theorem dX6_readyTrains_14 : decode cX6_readyTrains 14 = .ok (.if_icmp .ge 26, 3) := by decide +kernel
theorem dX6_readyTrains_17 : decode cX6_readyTrains 17 = .ok (.iload_n 1, 1) := by decide +kernel
theorem dX6_readyTrains_18 : decode cX6_readyTrains 18 = .ok (.aload_n 0, 1) := by decide +kernel
theorem dX6_readyTrains_19 : decode cX6_readyTrains 19 = .ok (.iload_n 2, 1) := by decide +kernel
theorem dX6_readyTrains_20 : decode cX6_readyTrains 20 = .ok (.iconst 2, 1) := by decide +kernel
theorem dX6_readyTrains_21 : decode cX6_readyTrains 21 = .ok (.invokevirtual 81, 3) := by decide +kernel
theorem dX6_readyTrains_24 : decode cX6_readyTrains 24 = .ok (.ifCond .ne 7, 3) := by decide +kernel
theorem dX6_readyTrains_27 : decode cX6_readyTrains 27 = .ok (.iconst 1, 1) := by decide +kernel
theorem dX6_readyTrains_28 : decode cX6_readyTrains 28 = .ok (.goto 4, 3) := by decide +kernel
theorem dX6_readyTrains_31 : decode cX6_readyTrains 31 = .ok (.iconst 0, 1) := by decide +kernel
theorem dX6_readyTrains_32 : decode cX6_readyTrains 32 = .ok (.iadd, 1) := by decide +kernel
theorem dX6_readyTrains_33 : decode cX6_readyTrains 33 = .ok (.istore_n 1, 1) := by decide +kernel
theorem dX6_readyTrains_34 : decode cX6_readyTrains 34 = .ok (.iinc 2 1, 3) := by decide +kernel
theorem dX6_readyTrains_37 : decode cX6_readyTrains 37 = .ok (.goto (-28), 3) := by decide +kernel
theorem dX6_readyTrains_40 : decode cX6_readyTrains 40 = .ok (.iload_n 1, 1) := by decide +kernel
theorem dX6_readyTrains_41 : decode cX6_readyTrains 41 = .ok (.ireturn, 1) := by decide +kernel
theorem dX6_addTank_0 : decode cX6_addTank 0 = .ok (.aload_n 0, 1) := by decide +kernel
theorem dX6_addTank_1 : decode cX6_addTank 1 = .ok (.iload_n 1, 1) := by decide +kernel
theorem dX6_addTank_2 : decode cX6_addTank 2 = .ok (.i2l, 1) := by decide +kernel
theorem dX6_addTank_3 : decode cX6_addTank 3 = .ok (.lconst 1, 1) := by decide +kernel
theorem dX6_addTank_4 : decode cX6_addTank 4 = .ok (.ldc2_w 100, 3) := by decide +kernel
theorem dX6_addTank_7 : decode cX6_addTank 7 = .ok (.invokestatic 60, 3) := by decide +kernel
theorem dX6_addTank_10 : decode cX6_addTank 10 = .ok (.ifCond .ne 7, 3) := by decide +kernel
theorem dX6_addTank_13 : decode cX6_addTank 13 = .ok (.iconst 1, 1) := by decide +kernel
theorem dX6_addTank_14 : decode cX6_addTank 14 = .ok (.goto 16, 3) := by decide +kernel
theorem dX6_addTank_17 : decode cX6_addTank 17 = .ok (.aload_n 0, 1) := by decide +kernel
theorem dX6_addTank_18 : decode cX6_addTank 18 = .ok (.getfield 64, 3) := by decide +kernel
theorem dX6_addTank_21 : decode cX6_addTank 21 = .ok (.iconst 3, 1) := by decide +kernel
theorem dX6_addTank_22 : decode cX6_addTank 22 = .ok (.if_icmp .ne 7, 3) := by decide +kernel
theorem dX6_addTank_25 : decode cX6_addTank 25 = .ok (.iconst 2, 1) := by decide +kernel
theorem dX6_addTank_26 : decode cX6_addTank 26 = .ok (.goto 4, 3) := by decide +kernel
theorem dX6_addTank_29 : decode cX6_addTank 29 = .ok (.iconst 0, 1) := by decide +kernel
theorem dX6_addTank_30 : decode cX6_addTank 30 = .ok (.putfield 54, 3) := by decide +kernel
theorem dX6_addTank_33 : decode cX6_addTank 33 = .ok (.aload_n 0, 1) := by decide +kernel
theorem dX6_addTank_34 : decode cX6_addTank 34 = .ok (.getfield 54, 3) := by decide +kernel
theorem dX6_addTank_37 : decode cX6_addTank 37 = .ok (.ifCond .le 5, 3) := by decide +kernel
theorem dX6_addTank_40 : decode cX6_addTank 40 = .ok (.iconst (-1), 1) := by decide +kernel
theorem dX6_addTank_41 : decode cX6_addTank 41 = .ok (.ireturn, 1) := by decide +kernel
theorem dX6_addTank_42 : decode cX6_addTank 42 = .ok (.aload_n 0, 1) := by decide +kernel
theorem dX6_addTank_43 : decode cX6_addTank 43 = .ok (.getfield 22, 3) := by decide +kernel
theorem dX6_addTank_46 : decode cX6_addTank 46 = .ok (.aload_n 0, 1) := by decide +kernel
theorem dX6_addTank_47 : decode cX6_addTank 47 = .ok (.getfield 64, 3) := by decide +kernel
theorem dX6_addTank_50 : decode cX6_addTank 50 = .ok (.iload_n 1, 1) := by decide +kernel
theorem dX6_addTank_51 : decode cX6_addTank 51 = .ok (.iastore, 1) := by decide +kernel
theorem dX6_addTank_52 : decode cX6_addTank 52 = .ok (.aload_n 0, 1) := by decide +kernel
theorem dX6_addTank_53 : decode cX6_addTank 53 = .ok (.dup, 1) := by decide +kernel
theorem dX6_addTank_54 : decode cX6_addTank 54 = .ok (.getfield 64, 3) := by decide +kernel
theorem dX6_addTank_57 : decode cX6_addTank 57 = .ok (.iconst 1, 1) := by decide +kernel
theorem dX6_addTank_58 : decode cX6_addTank 58 = .ok (.iadd, 1) := by decide +kernel
theorem dX6_addTank_59 : decode cX6_addTank 59 = .ok (.putfield 64, 3) := by decide +kernel
theorem dX6_addTank_62 : decode cX6_addTank 62 = .ok (.aload_n 0, 1) := by decide +kernel
theorem dX6_addTank_63 : decode cX6_addTank 63 = .ok (.getfield 64, 3) := by decide +kernel
theorem dX6_addTank_66 : decode cX6_addTank 66 = .ok (.iconst 1, 1) := by decide +kernel
theorem dX6_addTank_67 : decode cX6_addTank 67 = .ok (.isub, 1) := by decide +kernel
theorem dX6_addTank_68 : decode cX6_addTank 68 = .ok (.ireturn, 1) := by decide +kernel
theorem dX6_setDemand_0 : decode cX6_setDemand 0 = .ok (.iload_n 2, 1) := by decide +kernel
theorem dX6_setDemand_1 : decode cX6_setDemand 1 = .ok (.i2l, 1) := by decide +kernel
theorem dX6_setDemand_2 : decode cX6_setDemand 2 = .ok (.lconst 0, 1) := by decide +kernel
theorem dX6_setDemand_3 : decode cX6_setDemand 3 = .ok (.ldc2_w 102, 3) := by decide +kernel
theorem dX6_setDemand_6 : decode cX6_setDemand 6 = .ok (.invokestatic 60, 3) := by decide +kernel
theorem dX6_setDemand_9 : decode cX6_setDemand 9 = .ok (.ifCond .eq 33, 3) := by decide +kernel
theorem dX6_setDemand_12 : decode cX6_setDemand 12 = .ok (.iload_n 3, 1) := by decide +kernel
theorem dX6_setDemand_13 : decode cX6_setDemand 13 = .ok (.i2l, 1) := by decide +kernel
theorem dX6_setDemand_14 : decode cX6_setDemand 14 = .ok (.iload_n 2, 1) := by decide +kernel
theorem dX6_setDemand_15 : decode cX6_setDemand 15 = .ok (.i2l, 1) := by decide +kernel
theorem dX6_setDemand_16 : decode cX6_setDemand 16 = .ok (.ldc2_w 102, 3) := by decide +kernel
theorem dX6_setDemand_19 : decode cX6_setDemand 19 = .ok (.invokestatic 60, 3) := by decide +kernel
theorem dX6_setDemand_22 : decode cX6_setDemand 22 = .ok (.ifCond .eq 20, 3) := by decide +kernel
theorem dX6_setDemand_25 : decode cX6_setDemand 25 = .ok (.iload 4, 2) := by decide +kernel
theorem dX6_setDemand_27 : decode cX6_setDemand 27 = .ok (.i2l, 1) := by decide +kernel
theorem dX6_setDemand_28 : decode cX6_setDemand 28 = .ok (.lconst 0, 1) := by decide +kernel
theorem dX6_setDemand_29 : decode cX6_setDemand 29 = .ok (.ldc2_w 104, 3) := by decide +kernel
theorem dX6_setDemand_32 : decode cX6_setDemand 32 = .ok (.invokestatic 60, 3) := by decide +kernel
theorem dX6_setDemand_35 : decode cX6_setDemand 35 = .ok (.ifCond .eq 7, 3) := by decide +kernel
theorem dX6_setDemand_38 : decode cX6_setDemand 38 = .ok (.iconst 1, 1) := by decide +kernel
theorem dX6_setDemand_39 : decode cX6_setDemand 39 = .ok (.goto 4, 3) := by decide +kernel
theorem dX6_setDemand_42 : decode cX6_setDemand 42 = .ok (.iconst 0, 1) := by decide +kernel
theorem dX6_setDemand_43 : decode cX6_setDemand 43 = .ok (.istore 5, 2) := by decide +kernel
theorem dX6_setDemand_45 : decode cX6_setDemand 45 = .ok (.aload_n 0, 1) := by decide +kernel
theorem dX6_setDemand_46 : decode cX6_setDemand 46 = .ok (.aload_n 0, 1) := by decide +kernel
theorem dX6_setDemand_47 : decode cX6_setDemand 47 = .ok (.iload_n 1, 1) := by decide +kernel
theorem dX6_setDemand_48 : decode cX6_setDemand 48 = .ok (.invokevirtual 106, 3) := by decide +kernel
theorem dX6_setDemand_51 : decode cX6_setDemand 51 = .ok (.ifCond .ne 7, 3) := by decide +kernel
theorem dX6_setDemand_54 : decode cX6_setDemand 54 = .ok (.iconst 1, 1) := by decide +kernel
theorem dX6_setDemand_55 : decode cX6_setDemand 55 = .ok (.goto 13, 3) := by decide +kernel
theorem dX6_setDemand_58 : decode cX6_setDemand 58 = .ok (.iload 5, 2) := by decide +kernel
theorem dX6_setDemand_60 : decode cX6_setDemand 60 = .ok (.ifCond .ne 7, 3) := by decide +kernel
theorem dX6_setDemand_63 : decode cX6_setDemand 63 = .ok (.iconst 2, 1) := by decide +kernel
theorem dX6_setDemand_64 : decode cX6_setDemand 64 = .ok (.goto 4, 3) := by decide +kernel
theorem dX6_setDemand_67 : decode cX6_setDemand 67 = .ok (.iconst 0, 1) := by decide +kernel
theorem dX6_setDemand_68 : decode cX6_setDemand 68 = .ok (.putfield 54, 3) := by decide +kernel
theorem dX6_setDemand_71 : decode cX6_setDemand 71 = .ok (.aload_n 0, 1) := by decide +kernel
theorem dX6_setDemand_72 : decode cX6_setDemand 72 = .ok (.getfield 54, 3) := by decide +kernel
theorem dX6_setDemand_75 : decode cX6_setDemand 75 = .ok (.ifCond .le 5, 3) := by decide +kernel
theorem dX6_setDemand_78 : decode cX6_setDemand 78 = .ok (.iconst (-1), 1) := by decide +kernel
theorem dX6_setDemand_79 : decode cX6_setDemand 79 = .ok (.ireturn, 1) := by decide +kernel
theorem dX6_setDemand_80 : decode cX6_setDemand 80 = .ok (.iconst 0, 1) := by decide +kernel
theorem dX6_setDemand_81 : decode cX6_setDemand 81 = .ok (.istore 6, 2) := by decide +kernel
theorem dX6_setDemand_83 : decode cX6_setDemand 83 = .ok (.iconst 0, 1) := by decide +kernel
theorem dX6_setDemand_84 : decode cX6_setDemand 84 = .ok (.istore 7, 2) := by decide +kernel
theorem dX6_setDemand_86 : decode cX6_setDemand 86 = .ok (.iload 7, 2) := by decide +kernel
theorem dX6_setDemand_88 : decode cX6_setDemand 88 = .ok (.bipush 48, 2) := by decide +kernel
theorem dX6_setDemand_90 : decode cX6_setDemand 90 = .ok (.if_icmp .ge 68, 3) := by decide +kernel
theorem dX6_setDemand_93 : decode cX6_setDemand 93 = .ok (.aload_n 0, 1) := by decide +kernel
theorem dX6_setDemand_94 : decode cX6_setDemand 94 = .ok (.getfield 25, 3) := by decide +kernel
theorem dX6_setDemand_97 : decode cX6_setDemand 97 = .ok (.bipush 48, 2) := by decide +kernel
theorem dX6_setDemand_99 : decode cX6_setDemand 99 = .ok (.iload_n 1, 1) := by decide +kernel
theorem dX6_setDemand_100 : decode cX6_setDemand 100 = .ok (.imul, 1) := by decide +kernel
theorem dX6_setDemand_101 : decode cX6_setDemand 101 = .ok (.iload 7, 2) := by decide +kernel
theorem dX6_setDemand_103 : decode cX6_setDemand 103 = .ok (.iadd, 1) := by decide +kernel
theorem dX6_setDemand_104 : decode cX6_setDemand 104 = .ok (.iload 7, 2) := by decide +kernel
theorem dX6_setDemand_106 : decode cX6_setDemand 106 = .ok (.i2l, 1) := by decide +kernel
theorem dX6_setDemand_107 : decode cX6_setDemand 107 = .ok (.iload_n 2, 1) := by decide +kernel
theorem dX6_setDemand_108 : decode cX6_setDemand 108 = .ok (.i2l, 1) := by decide +kernel
theorem dX6_setDemand_109 : decode cX6_setDemand 109 = .ok (.iload_n 3, 1) := by decide +kernel
theorem dX6_setDemand_110 : decode cX6_setDemand 110 = .ok (.i2l, 1) := by decide +kernel
theorem dX6_setDemand_111 : decode cX6_setDemand 111 = .ok (.invokestatic 60, 3) := by decide +kernel
theorem dX6_setDemand_114 : decode cX6_setDemand 114 = .ok (.ifCond .eq 8, 3) := by decide +kernel
theorem dX6_setDemand_117 : decode cX6_setDemand 117 = .ok (.iload 4, 2) := by decide +kernel
theorem dX6_setDemand_119 : decode cX6_setDemand 119 = .ok (.goto 15, 3) := by decide +kernel
theorem dX6_setDemand_122 : decode cX6_setDemand 122 = .ok (.aload_n 0, 1) := by decide +kernel
theorem dX6_setDemand_123 : decode cX6_setDemand 123 = .ok (.getfield 25, 3) := by decide +kernel
theorem dX6_setDemand_126 : decode cX6_setDemand 126 = .ok (.bipush 48, 2) := by decide +kernel
theorem dX6_setDemand_128 : decode cX6_setDemand 128 = .ok (.iload_n 1, 1) := by decide +kernel
theorem dX6_setDemand_129 : decode cX6_setDemand 129 = .ok (.imul, 1) := by decide +kernel
theorem dX6_setDemand_130 : decode cX6_setDemand 130 = .ok (.iload 7, 2) := by decide +kernel
theorem dX6_setDemand_132 : decode cX6_setDemand 132 = .ok (.iadd, 1) := by decide +kernel
theorem dX6_setDemand_133 : decode cX6_setDemand 133 = .ok (.iaload, 1) := by decide +kernel
theorem dX6_setDemand_134 : decode cX6_setDemand 134 = .ok (.iastore, 1) := by decide +kernel
theorem dX6_setDemand_135 : decode cX6_setDemand 135 = .ok (.iload 6, 2) := by decide +kernel
theorem dX6_setDemand_137 : decode cX6_setDemand 137 = .ok (.aload_n 0, 1) := by decide +kernel
theorem dX6_setDemand_138 : decode cX6_setDemand 138 = .ok (.getfield 25, 3) := by decide +kernel
theorem dX6_setDemand_141 : decode cX6_setDemand 141 = .ok (.bipush 48, 2) := by decide +kernel
theorem dX6_setDemand_143 : decode cX6_setDemand 143 = .ok (.iload_n 1, 1) := by decide +kernel
theorem dX6_setDemand_144 : decode cX6_setDemand 144 = .ok (.imul, 1) := by decide +kernel
theorem dX6_setDemand_145 : decode cX6_setDemand 145 = .ok (.iload 7, 2) := by decide +kernel
theorem dX6_setDemand_147 : decode cX6_setDemand 147 = .ok (.iadd, 1) := by decide +kernel
theorem dX6_setDemand_148 : decode cX6_setDemand 148 = .ok (.iaload, 1) := by decide +kernel
theorem dX6_setDemand_149 : decode cX6_setDemand 149 = .ok (.iadd, 1) := by decide +kernel
theorem dX6_setDemand_150 : decode cX6_setDemand 150 = .ok (.istore 6, 2) := by decide +kernel
theorem dX6_setDemand_152 : decode cX6_setDemand 152 = .ok (.iinc 7 1, 3) := by decide +kernel
theorem dX6_setDemand_155 : decode cX6_setDemand 155 = .ok (.goto (-69), 3) := by decide +kernel
theorem dX6_setDemand_158 : decode cX6_setDemand 158 = .ok (.iload 6, 2) := by decide +kernel
theorem dX6_setDemand_160 : decode cX6_setDemand 160 = .ok (.ireturn, 1) := by decide +kernel
theorem dX6_setPrice_0 : decode cX6_setPrice 0 = .ok (.aload_n 0, 1) := by decide +kernel
theorem dX6_setPrice_1 : decode cX6_setPrice 1 = .ok (.iload_n 1, 1) := by decide +kernel
theorem dX6_setPrice_2 : decode cX6_setPrice 2 = .ok (.i2l, 1) := by decide +kernel
theorem dX6_setPrice_3 : decode cX6_setPrice 3 = .ok (.lconst 0, 1) := by decide +kernel
theorem dX6_setPrice_4 : decode cX6_setPrice 4 = .ok (.ldc2_w 102, 3) := by decide +kernel
theorem dX6_setPrice_7 : decode cX6_setPrice 7 = .ok (.invokestatic 60, 3) := by decide +kernel
theorem dX6_setPrice_10 : decode cX6_setPrice 10 = .ok (.ifCond .eq 32, 3) := by decide +kernel
theorem dX6_setPrice_13 : decode cX6_setPrice 13 = .ok (.iload_n 2, 1) := by decide +kernel
theorem dX6_setPrice_14 : decode cX6_setPrice 14 = .ok (.i2l, 1) := by decide +kernel
theorem dX6_setPrice_15 : decode cX6_setPrice 15 = .ok (.iload_n 1, 1) := by decide +kernel
theorem dX6_setPrice_16 : decode cX6_setPrice 16 = .ok (.i2l, 1) := by decide +kernel
theorem dX6_setPrice_17 : decode cX6_setPrice 17 = .ok (.ldc2_w 102, 3) := by decide +kernel
theorem dX6_setPrice_20 : decode cX6_setPrice 20 = .ok (.invokestatic 60, 3) := by decide +kernel
theorem dX6_setPrice_23 : decode cX6_setPrice 23 = .ok (.ifCond .eq 19, 3) := by decide +kernel
theorem dX6_setPrice_26 : decode cX6_setPrice 26 = .ok (.iload_n 3, 1) := by decide +kernel
theorem dX6_setPrice_27 : decode cX6_setPrice 27 = .ok (.i2l, 1) := by decide +kernel
theorem dX6_setPrice_28 : decode cX6_setPrice 28 = .ok (.lconst 0, 1) := by decide +kernel
theorem dX6_setPrice_29 : decode cX6_setPrice 29 = .ok (.ldc2_w 109, 3) := by decide +kernel
theorem dX6_setPrice_32 : decode cX6_setPrice 32 = .ok (.invokestatic 60, 3) := by decide +kernel
theorem dX6_setPrice_35 : decode cX6_setPrice 35 = .ok (.ifCond .eq 7, 3) := by decide +kernel
theorem dX6_setPrice_38 : decode cX6_setPrice 38 = .ok (.iconst 0, 1) := by decide +kernel
theorem dX6_setPrice_39 : decode cX6_setPrice 39 = .ok (.goto 4, 3) := by decide +kernel
theorem dX6_setPrice_42 : decode cX6_setPrice 42 = .ok (.iconst 1, 1) := by decide +kernel
theorem dX6_setPrice_43 : decode cX6_setPrice 43 = .ok (.putfield 54, 3) := by decide +kernel
theorem dX6_setPrice_46 : decode cX6_setPrice 46 = .ok (.aload_n 0, 1) := by decide +kernel
theorem dX6_setPrice_47 : decode cX6_setPrice 47 = .ok (.getfield 54, 3) := by decide +kernel
theorem dX6_setPrice_50 : decode cX6_setPrice 50 = .ok (.ifCond .le 5, 3) := by decide +kernel
theorem dX6_setPrice_53 : decode cX6_setPrice 53 = .ok (.iconst (-1), 1) := by decide +kernel
theorem dX6_setPrice_54 : decode cX6_setPrice 54 = .ok (.ireturn, 1) := by decide +kernel
theorem dX6_setPrice_55 : decode cX6_setPrice 55 = .ok (.iconst 0, 1) := by decide +kernel
theorem dX6_setPrice_56 : decode cX6_setPrice 56 = .ok (.istore 4, 2) := by decide +kernel
theorem dX6_setPrice_58 : decode cX6_setPrice 58 = .ok (.iconst 0, 1) := by decide +kernel
theorem dX6_setPrice_59 : decode cX6_setPrice 59 = .ok (.istore 5, 2) := by decide +kernel
theorem dX6_setPrice_61 : decode cX6_setPrice 61 = .ok (.iload 5, 2) := by decide +kernel
theorem dX6_setPrice_63 : decode cX6_setPrice 63 = .ok (.bipush 48, 2) := by decide +kernel
theorem dX6_setPrice_65 : decode cX6_setPrice 65 = .ok (.if_icmp .ge 52, 3) := by decide +kernel
theorem dX6_setPrice_68 : decode cX6_setPrice 68 = .ok (.aload_n 0, 1) := by decide +kernel
theorem dX6_setPrice_69 : decode cX6_setPrice 69 = .ok (.getfield 31, 3) := by decide +kernel
theorem dX6_setPrice_72 : decode cX6_setPrice 72 = .ok (.iload 5, 2) := by decide +kernel
theorem dX6_setPrice_74 : decode cX6_setPrice 74 = .ok (.iload 5, 2) := by decide +kernel
theorem dX6_setPrice_76 : decode cX6_setPrice 76 = .ok (.i2l, 1) := by decide +kernel
theorem dX6_setPrice_77 : decode cX6_setPrice 77 = .ok (.iload_n 1, 1) := by decide +kernel
theorem dX6_setPrice_78 : decode cX6_setPrice 78 = .ok (.i2l, 1) := by decide +kernel
theorem dX6_setPrice_79 : decode cX6_setPrice 79 = .ok (.iload_n 2, 1) := by decide +kernel
theorem dX6_setPrice_80 : decode cX6_setPrice 80 = .ok (.i2l, 1) := by decide +kernel
theorem dX6_setPrice_81 : decode cX6_setPrice 81 = .ok (.invokestatic 60, 3) := by decide +kernel
theorem dX6_setPrice_84 : decode cX6_setPrice 84 = .ok (.ifCond .eq 7, 3) := by decide +kernel
theorem dX6_setPrice_87 : decode cX6_setPrice 87 = .ok (.iload_n 3, 1) := by decide +kernel
theorem dX6_setPrice_88 : decode cX6_setPrice 88 = .ok (.goto 10, 3) := by decide +kernel
theorem dX6_setPrice_91 : decode cX6_setPrice 91 = .ok (.aload_n 0, 1) := by decide +kernel
theorem dX6_setPrice_92 : decode cX6_setPrice 92 = .ok (.getfield 31, 3) := by decide +kernel
theorem dX6_setPrice_95 : decode cX6_setPrice 95 = .ok (.iload 5, 2) := by decide +kernel
theorem dX6_setPrice_97 : decode cX6_setPrice 97 = .ok (.iaload, 1) := by decide +kernel
theorem dX6_setPrice_98 : decode cX6_setPrice 98 = .ok (.iastore, 1) := by decide +kernel
theorem dX6_setPrice_99 : decode cX6_setPrice 99 = .ok (.iload 4, 2) := by decide +kernel
theorem dX6_setPrice_101 : decode cX6_setPrice 101 = .ok (.aload_n 0, 1) := by decide +kernel
theorem dX6_setPrice_102 : decode cX6_setPrice 102 = .ok (.getfield 31, 3) := by decide +kernel
theorem dX6_setPrice_105 : decode cX6_setPrice 105 = .ok (.iload 5, 2) := by decide +kernel
theorem dX6_setPrice_107 : decode cX6_setPrice 107 = .ok (.iaload, 1) := by decide +kernel
theorem dX6_setPrice_108 : decode cX6_setPrice 108 = .ok (.iadd, 1) := by decide +kernel
theorem dX6_setPrice_109 : decode cX6_setPrice 109 = .ok (.istore 4, 2) := by decide +kernel
theorem dX6_setPrice_111 : decode cX6_setPrice 111 = .ok (.iinc 5 1, 3) := by decide +kernel
theorem dX6_setPrice_114 : decode cX6_setPrice 114 = .ok (.goto (-53), 3) := by decide +kernel
theorem dX6_setPrice_117 : decode cX6_setPrice 117 = .ok (.iload 4, 2) := by decide +kernel
theorem dX6_setPrice_119 : decode cX6_setPrice 119 = .ok (.ireturn, 1) := by decide +kernel
theorem dX6_demand_0 : decode cX6_demand 0 = .ok (.aload_n 0, 1) := by decide +kernel
theorem dX6_demand_1 : decode cX6_demand 1 = .ok (.aload_n 0, 1) := by decide +kernel
theorem dX6_demand_2 : decode cX6_demand 2 = .ok (.iload_n 1, 1) := by decide +kernel
theorem dX6_demand_3 : decode cX6_demand 3 = .ok (.invokevirtual 106, 3) := by decide +kernel
theorem dX6_demand_6 : decode cX6_demand 6 = .ok (.ifCond .ne 7, 3) := by decide +kernel
theorem dX6_demand_9 : decode cX6_demand 9 = .ok (.iconst 1, 1) := by decide +kernel
theorem dX6_demand_10 : decode cX6_demand 10 = .ok (.goto 20, 3) := by decide +kernel
theorem dX6_demand_13 : decode cX6_demand 13 = .ok (.iload_n 2, 1) := by decide +kernel
theorem dX6_demand_14 : decode cX6_demand 14 = .ok (.i2l, 1) := by decide +kernel
theorem dX6_demand_15 : decode cX6_demand 15 = .ok (.lconst 0, 1) := by decide +kernel
theorem dX6_demand_16 : decode cX6_demand 16 = .ok (.ldc2_w 102, 3) := by decide +kernel
theorem dX6_demand_19 : decode cX6_demand 19 = .ok (.invokestatic 60, 3) := by decide +kernel
theorem dX6_demand_22 : decode cX6_demand 22 = .ok (.ifCond .ne 7, 3) := by decide +kernel
theorem dX6_demand_25 : decode cX6_demand 25 = .ok (.iconst 2, 1) := by decide +kernel
theorem dX6_demand_26 : decode cX6_demand 26 = .ok (.goto 4, 3) := by decide +kernel
theorem dX6_demand_29 : decode cX6_demand 29 = .ok (.iconst 0, 1) := by decide +kernel
theorem dX6_demand_30 : decode cX6_demand 30 = .ok (.putfield 54, 3) := by decide +kernel
theorem dX6_demand_33 : decode cX6_demand 33 = .ok (.aload_n 0, 1) := by decide +kernel
theorem dX6_demand_34 : decode cX6_demand 34 = .ok (.getfield 54, 3) := by decide +kernel
theorem dX6_demand_37 : decode cX6_demand 37 = .ok (.ifCond .ne 17, 3) := by decide +kernel
theorem dX6_demand_40 : decode cX6_demand 40 = .ok (.aload_n 0, 1) := by decide +kernel
theorem dX6_demand_41 : decode cX6_demand 41 = .ok (.getfield 25, 3) := by decide +kernel
theorem dX6_demand_44 : decode cX6_demand 44 = .ok (.bipush 48, 2) := by decide +kernel
theorem dX6_demand_46 : decode cX6_demand 46 = .ok (.iload_n 1, 1) := by decide +kernel
theorem dX6_demand_47 : decode cX6_demand 47 = .ok (.imul, 1) := by decide +kernel
theorem dX6_demand_48 : decode cX6_demand 48 = .ok (.iload_n 2, 1) := by decide +kernel
theorem dX6_demand_49 : decode cX6_demand 49 = .ok (.iadd, 1) := by decide +kernel
theorem dX6_demand_50 : decode cX6_demand 50 = .ok (.iaload, 1) := by decide +kernel
theorem dX6_demand_51 : decode cX6_demand 51 = .ok (.goto 4, 3) := by decide +kernel
theorem dX6_demand_54 : decode cX6_demand 54 = .ok (.iconst (-1), 1) := by decide +kernel
theorem dX6_demand_55 : decode cX6_demand 55 = .ok (.ireturn, 1) := by decide +kernel
theorem dX6_level_0 : decode cX6_level 0 = .ok (.aload_n 0, 1) := by decide +kernel
theorem dX6_level_1 : decode cX6_level 1 = .ok (.aload_n 0, 1) := by decide +kernel
theorem dX6_level_2 : decode cX6_level 2 = .ok (.iload_n 1, 1) := by decide +kernel
theorem dX6_level_3 : decode cX6_level 3 = .ok (.invokevirtual 106, 3) := by decide +kernel
theorem dX6_level_6 : decode cX6_level 6 = .ok (.ifCond .eq 7, 3) := by decide +kernel
theorem dX6_level_9 : decode cX6_level 9 = .ok (.iconst 0, 1) := by decide +kernel
theorem dX6_level_10 : decode cX6_level 10 = .ok (.goto 4, 3) := by decide +kernel
theorem dX6_level_13 : decode cX6_level 13 = .ok (.iconst 1, 1) := by decide +kernel
theorem dX6_level_14 : decode cX6_level 14 = .ok (.putfield 54, 3) := by decide +kernel
theorem dX6_level_17 : decode cX6_level 17 = .ok (.aload_n 0, 1) := by decide +kernel
theorem dX6_level_18 : decode cX6_level 18 = .ok (.getfield 54, 3) := by decide +kernel
theorem dX6_level_21 : decode cX6_level 21 = .ok (.ifCond .ne 15, 3) := by decide +kernel
theorem dX6_level_24 : decode cX6_level 24 = .ok (.aload_n 0, 1) := by decide +kernel
theorem dX6_level_25 : decode cX6_level 25 = .ok (.getfield 9, 3) := by decide +kernel
theorem dX6_level_28 : decode cX6_level 28 = .ok (.bipush 12, 2) := by decide +kernel
theorem dX6_level_30 : decode cX6_level 30 = .ok (.iload_n 1, 1) := by decide +kernel
theorem dX6_level_31 : decode cX6_level 31 = .ok (.iadd, 1) := by decide +kernel
theorem dX6_level_32 : decode cX6_level 32 = .ok (.iaload, 1) := by decide +kernel
theorem dX6_level_33 : decode cX6_level 33 = .ok (.goto 4, 3) := by decide +kernel
theorem dX6_level_36 : decode cX6_level 36 = .ok (.iconst (-1), 1) := by decide +kernel
theorem dX6_level_37 : decode cX6_level 37 = .ok (.ireturn, 1) := by decide +kernel
theorem dX6_shortOf_0 : decode cX6_shortOf 0 = .ok (.aload_n 0, 1) := by decide +kernel
theorem dX6_shortOf_1 : decode cX6_shortOf 1 = .ok (.aload_n 0, 1) := by decide +kernel
theorem dX6_shortOf_2 : decode cX6_shortOf 2 = .ok (.iload_n 1, 1) := by decide +kernel
theorem dX6_shortOf_3 : decode cX6_shortOf 3 = .ok (.invokevirtual 106, 3) := by decide +kernel
theorem dX6_shortOf_6 : decode cX6_shortOf 6 = .ok (.ifCond .eq 7, 3) := by decide +kernel
theorem dX6_shortOf_9 : decode cX6_shortOf 9 = .ok (.iconst 0, 1) := by decide +kernel
theorem dX6_shortOf_10 : decode cX6_shortOf 10 = .ok (.goto 4, 3) := by decide +kernel
theorem dX6_shortOf_13 : decode cX6_shortOf 13 = .ok (.iconst 1, 1) := by decide +kernel
theorem dX6_shortOf_14 : decode cX6_shortOf 14 = .ok (.putfield 54, 3) := by decide +kernel
theorem dX6_shortOf_17 : decode cX6_shortOf 17 = .ok (.aload_n 0, 1) := by decide +kernel
theorem dX6_shortOf_18 : decode cX6_shortOf 18 = .ok (.getfield 54, 3) := by decide +kernel
theorem dX6_shortOf_21 : decode cX6_shortOf 21 = .ok (.ifCond .ne 12, 3) := by decide +kernel
theorem dX6_shortOf_24 : decode cX6_shortOf 24 = .ok (.aload_n 0, 1) := by decide +kernel
theorem dX6_shortOf_25 : decode cX6_shortOf 25 = .ok (.getfield 28, 3) := by decide +kernel
theorem dX6_shortOf_28 : decode cX6_shortOf 28 = .ok (.iload_n 1, 1) := by decide +kernel
theorem dX6_shortOf_29 : decode cX6_shortOf 29 = .ok (.iaload, 1) := by decide +kernel
theorem dX6_shortOf_30 : decode cX6_shortOf 30 = .ok (.goto 4, 3) := by decide +kernel
theorem dX6_shortOf_33 : decode cX6_shortOf 33 = .ok (.iconst (-1), 1) := by decide +kernel
theorem dX6_shortOf_34 : decode cX6_shortOf 34 = .ok (.ireturn, 1) := by decide +kernel
theorem dX6_cleans_0 : decode cX6_cleans 0 = .ok (.aload_n 0, 1) := by decide +kernel
theorem dX6_cleans_1 : decode cX6_cleans 1 = .ok (.getfield 9, 3) := by decide +kernel
theorem dX6_cleans_4 : decode cX6_cleans 4 = .ok (.iconst 3, 1) := by decide +kernel
theorem dX6_cleans_5 : decode cX6_cleans 5 = .ok (.iload_n 1, 1) := by decide +kernel
theorem dX6_cleans_6 : decode cX6_cleans 6 = .ok (.imul, 1) := by decide +kernel
theorem dX6_cleans_7 : decode cX6_cleans 7 = .ok (.iconst 2, 1) := by decide +kernel
theorem dX6_cleans_8 : decode cX6_cleans 8 = .ok (.iadd, 1) := by decide +kernel
theorem dX6_cleans_9 : decode cX6_cleans 9 = .ok (.dup2, 1) := by decide +kernel
theorem dX6_cleans_10 : decode cX6_cleans 10 = .ok (.iaload, 1) := by decide +kernel
theorem dX6_cleans_11 : decode cX6_cleans 11 = .ok (.iconst 1, 1) := by decide +kernel
theorem dX6_cleans_12 : decode cX6_cleans 12 = .ok (.isub, 1) := by decide +kernel
theorem dX6_cleans_13 : decode cX6_cleans 13 = .ok (.iastore, 1) := by decide +kernel
theorem dX6_cleans_14 : decode cX6_cleans 14 = .ok (.aload_n 0, 1) := by decide +kernel
theorem dX6_cleans_15 : decode cX6_cleans 15 = .ok (.iload_n 1, 1) := by decide +kernel
theorem dX6_cleans_16 : decode cX6_cleans 16 = .ok (.iconst 2, 1) := by decide +kernel
theorem dX6_cleans_17 : decode cX6_cleans 17 = .ok (.invokevirtual 81, 3) := by decide +kernel
theorem dX6_cleans_20 : decode cX6_cleans 20 = .ok (.ifCond .ne 51, 3) := by decide +kernel
theorem dX6_cleans_23 : decode cX6_cleans 23 = .ok (.aload_n 0, 1) := by decide +kernel
theorem dX6_cleans_24 : decode cX6_cleans 24 = .ok (.getfield 9, 3) := by decide +kernel
theorem dX6_cleans_27 : decode cX6_cleans 27 = .ok (.iconst 3, 1) := by decide +kernel
theorem dX6_cleans_28 : decode cX6_cleans 28 = .ok (.iload_n 1, 1) := by decide +kernel
theorem dX6_cleans_29 : decode cX6_cleans 29 = .ok (.imul, 1) := by decide +kernel
theorem dX6_cleans_30 : decode cX6_cleans 30 = .ok (.iconst 0, 1) := by decide +kernel
theorem dX6_cleans_31 : decode cX6_cleans 31 = .ok (.iadd, 1) := by decide +kernel
theorem dX6_cleans_32 : decode cX6_cleans 32 = .ok (.aload_n 0, 1) := by decide +kernel
theorem dX6_cleans_33 : decode cX6_cleans 33 = .ok (.iload_n 1, 1) := by decide +kernel
theorem dX6_cleans_34 : decode cX6_cleans 34 = .ok (.iconst 0, 1) := by decide +kernel
theorem dX6_cleans_35 : decode cX6_cleans 35 = .ok (.invokevirtual 81, 3) := by decide +kernel
theorem dX6_cleans_38 : decode cX6_cleans 38 = .ok (.iconst 4, 1) := by decide +kernel
theorem dX6_cleans_39 : decode cX6_cleans 39 = .ok (.idiv, 1) := by decide +kernel
theorem dX6_cleans_40 : decode cX6_cleans 40 = .ok (.aload_n 0, 1) := by decide +kernel
theorem dX6_cleans_41 : decode cX6_cleans 41 = .ok (.iload_n 1, 1) := by decide +kernel
theorem dX6_cleans_42 : decode cX6_cleans 42 = .ok (.iconst 1, 1) := by decide +kernel
theorem dX6_cleans_43 : decode cX6_cleans 43 = .ok (.invokevirtual 81, 3) := by decide +kernel
theorem dX6_cleans_46 : decode cX6_cleans 46 = .ok (.iadd, 1) := by decide +kernel
theorem dX6_cleans_47 : decode cX6_cleans 47 = .ok (.iastore, 1) := by decide +kernel
theorem dX6_cleans_48 : decode cX6_cleans 48 = .ok (.aload_n 0, 1) := by decide +kernel
theorem dX6_cleans_49 : decode cX6_cleans 49 = .ok (.getfield 9, 3) := by decide +kernel
theorem dX6_cleans_52 : decode cX6_cleans 52 = .ok (.iconst 3, 1) := by decide +kernel
theorem dX6_cleans_53 : decode cX6_cleans 53 = .ok (.iload_n 1, 1) := by decide +kernel
theorem dX6_cleans_54 : decode cX6_cleans 54 = .ok (.imul, 1) := by decide +kernel
theorem dX6_cleans_55 : decode cX6_cleans 55 = .ok (.iconst 1, 1) := by decide +kernel
theorem dX6_cleans_56 : decode cX6_cleans 56 = .ok (.iadd, 1) := by decide +kernel
theorem dX6_cleans_57 : decode cX6_cleans 57 = .ok (.bipush 20, 2) := by decide +kernel
theorem dX6_cleans_59 : decode cX6_cleans 59 = .ok (.aload_n 0, 1) := by decide +kernel
theorem dX6_cleans_60 : decode cX6_cleans 60 = .ok (.iload_n 1, 1) := by decide +kernel
theorem dX6_cleans_61 : decode cX6_cleans 61 = .ok (.iconst 1, 1) := by decide +kernel
theorem dX6_cleans_62 : decode cX6_cleans 62 = .ok (.invokevirtual 81, 3) := by decide +kernel
theorem dX6_cleans_65 : decode cX6_cleans 65 = .ok (.iconst 1, 1) := by decide +kernel
theorem dX6_cleans_66 : decode cX6_cleans 66 = .ok (.iadd, 1) := by decide +kernel
theorem dX6_cleans_67 : decode cX6_cleans 67 = .ok (.invokestatic 111, 3) := by decide +kernel
theorem dX6_cleans_70 : decode cX6_cleans 70 = .ok (.iastore, 1) := by decide +kernel
theorem dX6_cleans_71 : decode cX6_cleans 71 = .ok (.return_, 1) := by decide +kernel
theorem dX6_works_0 : decode cX6_works 0 = .ok (.aload_n 0, 1) := by decide +kernel
theorem dX6_works_1 : decode cX6_works 1 = .ok (.dup, 1) := by decide +kernel
theorem dX6_works_2 : decode cX6_works 2 = .ok (.getfield 114, 3) := by decide +kernel
theorem dX6_works_5 : decode cX6_works 5 = .ok (.aload_n 0, 1) := by decide +kernel
theorem dX6_works_6 : decode cX6_works 6 = .ok (.iload_n 1, 1) := by decide +kernel
theorem dX6_works_7 : decode cX6_works 7 = .ok (.invokevirtual 90, 3) := by decide +kernel
theorem dX6_works_10 : decode cX6_works 10 = .ok (.iadd, 1) := by decide +kernel
theorem dX6_works_11 : decode cX6_works 11 = .ok (.putfield 114, 3) := by decide +kernel
theorem dX6_works_14 : decode cX6_works 14 = .ok (.aload_n 0, 1) := by decide +kernel
theorem dX6_works_15 : decode cX6_works 15 = .ok (.dup, 1) := by decide +kernel
theorem dX6_works_16 : decode cX6_works 16 = .ok (.getfield 117, 3) := by decide +kernel
theorem dX6_works_19 : decode cX6_works 19 = .ok (.aload_n 0, 1) := by decide +kernel
theorem dX6_works_20 : decode cX6_works 20 = .ok (.iload_n 1, 1) := by decide +kernel
theorem dX6_works_21 : decode cX6_works 21 = .ok (.invokevirtual 94, 3) := by decide +kernel
theorem dX6_works_24 : decode cX6_works 24 = .ok (.iadd, 1) := by decide +kernel
theorem dX6_works_25 : decode cX6_works 25 = .ok (.putfield 117, 3) := by decide +kernel
theorem dX6_works_28 : decode cX6_works 28 = .ok (.aload_n 0, 1) := by decide +kernel
theorem dX6_works_29 : decode cX6_works 29 = .ok (.dup, 1) := by decide +kernel
theorem dX6_works_30 : decode cX6_works 30 = .ok (.getfield 120, 3) := by decide +kernel
theorem dX6_works_33 : decode cX6_works 33 = .ok (.aload_n 0, 1) := by decide +kernel
theorem dX6_works_34 : decode cX6_works 34 = .ok (.iload_n 1, 1) := by decide +kernel
theorem dX6_works_35 : decode cX6_works 35 = .ok (.invokevirtual 97, 3) := by decide +kernel
theorem dX6_works_38 : decode cX6_works 38 = .ok (.iadd, 1) := by decide +kernel
theorem dX6_works_39 : decode cX6_works 39 = .ok (.putfield 120, 3) := by decide +kernel
theorem dX6_works_42 : decode cX6_works 42 = .ok (.aload_n 0, 1) := by decide +kernel
theorem dX6_works_43 : decode cX6_works 43 = .ok (.getfield 19, 3) := by decide +kernel
theorem dX6_works_46 : decode cX6_works 46 = .ok (.iload_n 1, 1) := by decide +kernel
theorem dX6_works_47 : decode cX6_works 47 = .ok (.iaload, 1) := by decide +kernel
theorem dX6_works_48 : decode cX6_works 48 = .ok (.bipush 45, 2) := by decide +kernel
theorem dX6_works_50 : decode cX6_works 50 = .ok (.if_icmp .gt 7, 3) := by decide +kernel
theorem dX6_works_53 : decode cX6_works 53 = .ok (.iconst 1, 1) := by decide +kernel
theorem dX6_works_54 : decode cX6_works 54 = .ok (.goto 19, 3) := by decide +kernel
theorem dX6_works_57 : decode cX6_works 57 = .ok (.aload_n 0, 1) := by decide +kernel
theorem dX6_works_58 : decode cX6_works 58 = .ok (.getfield 19, 3) := by decide +kernel
theorem dX6_works_61 : decode cX6_works 61 = .ok (.iload_n 1, 1) := by decide +kernel
theorem dX6_works_62 : decode cX6_works 62 = .ok (.iaload, 1) := by decide +kernel
theorem dX6_works_63 : decode cX6_works 63 = .ok (.bipush 55, 2) := by decide +kernel
theorem dX6_works_65 : decode cX6_works 65 = .ok (.if_icmp .gt 7, 3) := by decide +kernel
theorem dX6_works_68 : decode cX6_works 68 = .ok (.iconst 2, 1) := by decide +kernel
theorem dX6_works_69 : decode cX6_works 69 = .ok (.goto 4, 3) := by decide +kernel
theorem dX6_works_72 : decode cX6_works 72 = .ok (.iconst 3, 1) := by decide +kernel
theorem dX6_works_73 : decode cX6_works 73 = .ok (.istore_n 2, 1) := by decide +kernel
theorem dX6_works_74 : decode cX6_works 74 = .ok (.aload_n 0, 1) := by decide +kernel
theorem dX6_works_75 : decode cX6_works 75 = .ok (.getfield 9, 3) := by decide +kernel
theorem dX6_works_78 : decode cX6_works 78 = .ok (.iconst 3, 1) := by decide +kernel
theorem dX6_works_79 : decode cX6_works 79 = .ok (.iload_n 1, 1) := by decide +kernel
theorem dX6_works_80 : decode cX6_works 80 = .ok (.imul, 1) := by decide +kernel
theorem dX6_works_81 : decode cX6_works 81 = .ok (.iconst 0, 1) := by decide +kernel
theorem dX6_works_82 : decode cX6_works 82 = .ok (.iadd, 1) := by decide +kernel
theorem dX6_works_83 : decode cX6_works 83 = .ok (.bipush 90, 2) := by decide +kernel
theorem dX6_works_85 : decode cX6_works 85 = .ok (.aload_n 0, 1) := by decide +kernel
theorem dX6_works_86 : decode cX6_works 86 = .ok (.iload_n 1, 1) := by decide +kernel
theorem dX6_works_87 : decode cX6_works 87 = .ok (.iconst 0, 1) := by decide +kernel
theorem dX6_works_88 : decode cX6_works 88 = .ok (.invokevirtual 81, 3) := by decide +kernel
theorem dX6_works_91 : decode cX6_works 91 = .ok (.iload_n 2, 1) := by decide +kernel
theorem dX6_works_92 : decode cX6_works 92 = .ok (.iadd, 1) := by decide +kernel
theorem dX6_works_93 : decode cX6_works 93 = .ok (.invokestatic 111, 3) := by decide +kernel
theorem dX6_works_96 : decode cX6_works 96 = .ok (.iastore, 1) := by decide +kernel
theorem dX6_works_97 : decode cX6_works 97 = .ok (.return_, 1) := by decide +kernel
theorem dX6_goes_0 : decode cX6_goes 0 = .ok (.aload_n 0, 1) := by decide +kernel
theorem dX6_goes_1 : decode cX6_goes 1 = .ok (.iconst 0, 1) := by decide +kernel
theorem dX6_goes_2 : decode cX6_goes 2 = .ok (.putfield 114, 3) := by decide +kernel
theorem dX6_goes_5 : decode cX6_goes 5 = .ok (.aload_n 0, 1) := by decide +kernel
theorem dX6_goes_6 : decode cX6_goes 6 = .ok (.iconst 0, 1) := by decide +kernel
theorem dX6_goes_7 : decode cX6_goes 7 = .ok (.putfield 117, 3) := by decide +kernel
theorem dX6_goes_10 : decode cX6_goes 10 = .ok (.aload_n 0, 1) := by decide +kernel
theorem dX6_goes_11 : decode cX6_goes 11 = .ok (.iconst 0, 1) := by decide +kernel
theorem dX6_goes_12 : decode cX6_goes 12 = .ok (.putfield 120, 3) := by decide +kernel
theorem dX6_goes_15 : decode cX6_goes 15 = .ok (.aload_n 0, 1) := by decide +kernel
theorem dX6_goes_16 : decode cX6_goes 16 = .ok (.iconst 0, 1) := by decide +kernel
theorem dX6_goes_17 : decode cX6_goes 17 = .ok (.putfield 123, 3) := by decide +kernel
theorem dX6_goes_20 : decode cX6_goes 20 = .ok (.iconst 0, 1) := by decide +kernel
theorem dX6_goes_21 : decode cX6_goes 21 = .ok (.istore_n 3, 1) := by decide +kernel
theorem dX6_goes_22 : decode cX6_goes 22 = .ok (.iload_n 3, 1) := by decide +kernel
theorem dX6_goes_23 : decode cX6_goes 23 = .ok (.aload_n 0, 1) := by decide +kernel
end
section
theorem dX6_goes_24 : decode cX6_goes 24 = .ok (.getfield 57, 3) := by decide +kernel
theorem dX6_goes_27 : decode cX6_goes 27 = .ok (.if_icmp .ge 35, 3) := by decide +kernel
theorem dX6_goes_30 : decode cX6_goes 30 = .ok (.aload_n 0, 1) := by decide +kernel
theorem dX6_goes_31 : decode cX6_goes 31 = .ok (.iload_n 3, 1) := by decide +kernel
theorem dX6_goes_32 : decode cX6_goes 32 = .ok (.iconst 2, 1) := by decide +kernel
theorem dX6_goes_33 : decode cX6_goes 33 = .ok (.invokevirtual 81, 3) := by decide +kernel
theorem dX6_goes_36 : decode cX6_goes 36 = .ok (.ifCond .le 11, 3) := by decide +kernel
theorem dX6_goes_39 : decode cX6_goes 39 = .ok (.aload_n 0, 1) := by decide +kernel
theorem dX6_goes_40 : decode cX6_goes 40 = .ok (.iload_n 3, 1) := by decide +kernel
theorem dX6_goes_41 : decode cX6_goes 41 = .ok (.invokevirtual 126, 3) := by decide +kernel
theorem dX6_goes_44 : decode cX6_goes 44 = .ok (.goto 12, 3) := by decide +kernel
theorem dX6_goes_47 : decode cX6_goes 47 = .ok (.iload_n 2, 1) := by decide +kernel
theorem dX6_goes_48 : decode cX6_goes 48 = .ok (.ifCond .eq 8, 3) := by decide +kernel
theorem dX6_goes_51 : decode cX6_goes 51 = .ok (.aload_n 0, 1) := by decide +kernel
theorem dX6_goes_52 : decode cX6_goes 52 = .ok (.iload_n 3, 1) := by decide +kernel
theorem dX6_goes_53 : decode cX6_goes 53 = .ok (.invokevirtual 130, 3) := by decide +kernel
theorem dX6_goes_56 : decode cX6_goes 56 = .ok (.iinc 3 1, 3) := by decide +kernel
theorem dX6_goes_59 : decode cX6_goes 59 = .ok (.goto (-37), 3) := by decide +kernel
theorem dX6_goes_62 : decode cX6_goes 62 = .ok (.aload_n 0, 1) := by decide +kernel
theorem dX6_goes_63 : decode cX6_goes 63 = .ok (.aload_n 0, 1) := by decide +kernel
theorem dX6_goes_64 : decode cX6_goes 64 = .ok (.getfield 114, 3) := by decide +kernel
theorem dX6_goes_67 : decode cX6_goes 67 = .ok (.putfield 133, 3) := by decide +kernel
theorem dX6_goes_70 : decode cX6_goes 70 = .ok (.iconst 1, 1) := by decide +kernel
theorem dX6_goes_71 : decode cX6_goes 71 = .ok (.istore_n 3, 1) := by decide +kernel
theorem dX6_goes_72 : decode cX6_goes 72 = .ok (.iconst 0, 1) := by decide +kernel
theorem dX6_goes_73 : decode cX6_goes 73 = .ok (.istore 4, 2) := by decide +kernel
theorem dX6_goes_75 : decode cX6_goes 75 = .ok (.iload 4, 2) := by decide +kernel
theorem dX6_goes_77 : decode cX6_goes 77 = .ok (.aload_n 0, 1) := by decide +kernel
theorem dX6_goes_78 : decode cX6_goes 78 = .ok (.getfield 64, 3) := by decide +kernel
theorem dX6_goes_81 : decode cX6_goes 81 = .ok (.if_icmp .ge 62, 3) := by decide +kernel
theorem dX6_goes_84 : decode cX6_goes 84 = .ok (.aload_n 0, 1) := by decide +kernel
theorem dX6_goes_85 : decode cX6_goes 85 = .ok (.getfield 133, 3) := by decide +kernel
theorem dX6_goes_88 : decode cX6_goes 88 = .ok (.aload_n 0, 1) := by decide +kernel
theorem dX6_goes_89 : decode cX6_goes 89 = .ok (.getfield 22, 3) := by decide +kernel
theorem dX6_goes_92 : decode cX6_goes 92 = .ok (.iload 4, 2) := by decide +kernel
theorem dX6_goes_94 : decode cX6_goes 94 = .ok (.iaload, 1) := by decide +kernel
theorem dX6_goes_95 : decode cX6_goes 95 = .ok (.aload_n 0, 1) := by decide +kernel
theorem dX6_goes_96 : decode cX6_goes 96 = .ok (.getfield 9, 3) := by decide +kernel
theorem dX6_goes_99 : decode cX6_goes 99 = .ok (.bipush 12, 2) := by decide +kernel
theorem dX6_goes_101 : decode cX6_goes 101 = .ok (.iload 4, 2) := by decide +kernel
theorem dX6_goes_103 : decode cX6_goes 103 = .ok (.iadd, 1) := by decide +kernel
theorem dX6_goes_104 : decode cX6_goes 104 = .ok (.iaload, 1) := by decide +kernel
theorem dX6_goes_105 : decode cX6_goes 105 = .ok (.isub, 1) := by decide +kernel
theorem dX6_goes_106 : decode cX6_goes 106 = .ok (.invokestatic 111, 3) := by decide +kernel
theorem dX6_goes_109 : decode cX6_goes 109 = .ok (.istore 5, 2) := by decide +kernel
theorem dX6_goes_111 : decode cX6_goes 111 = .ok (.aload_n 0, 1) := by decide +kernel
theorem dX6_goes_112 : decode cX6_goes 112 = .ok (.getfield 9, 3) := by decide +kernel
theorem dX6_goes_115 : decode cX6_goes 115 = .ok (.bipush 12, 2) := by decide +kernel
theorem dX6_goes_117 : decode cX6_goes 117 = .ok (.iload 4, 2) := by decide +kernel
theorem dX6_goes_119 : decode cX6_goes 119 = .ok (.iadd, 1) := by decide +kernel
theorem dX6_goes_120 : decode cX6_goes 120 = .ok (.dup2, 1) := by decide +kernel
theorem dX6_goes_121 : decode cX6_goes 121 = .ok (.iaload, 1) := by decide +kernel
theorem dX6_goes_122 : decode cX6_goes 122 = .ok (.iload 5, 2) := by decide +kernel
theorem dX6_goes_124 : decode cX6_goes 124 = .ok (.iadd, 1) := by decide +kernel
theorem dX6_goes_125 : decode cX6_goes 125 = .ok (.iastore, 1) := by decide +kernel
theorem dX6_goes_126 : decode cX6_goes 126 = .ok (.aload_n 0, 1) := by decide +kernel
theorem dX6_goes_127 : decode cX6_goes 127 = .ok (.dup, 1) := by decide +kernel
theorem dX6_goes_128 : decode cX6_goes 128 = .ok (.getfield 133, 3) := by decide +kernel
theorem dX6_goes_131 : decode cX6_goes 131 = .ok (.iload 5, 2) := by decide +kernel
theorem dX6_goes_133 : decode cX6_goes 133 = .ok (.isub, 1) := by decide +kernel
theorem dX6_goes_134 : decode cX6_goes 134 = .ok (.putfield 133, 3) := by decide +kernel
theorem dX6_goes_137 : decode cX6_goes 137 = .ok (.iinc 4 1, 3) := by decide +kernel
theorem dX6_goes_140 : decode cX6_goes 140 = .ok (.goto (-65), 3) := by decide +kernel
theorem dX6_goes_143 : decode cX6_goes 143 = .ok (.iconst 0, 1) := by decide +kernel
theorem dX6_goes_144 : decode cX6_goes 144 = .ok (.istore 4, 2) := by decide +kernel
theorem dX6_goes_146 : decode cX6_goes 146 = .ok (.iload 4, 2) := by decide +kernel
theorem dX6_goes_148 : decode cX6_goes 148 = .ok (.aload_n 0, 1) := by decide +kernel
theorem dX6_goes_149 : decode cX6_goes 149 = .ok (.getfield 64, 3) := by decide +kernel
theorem dX6_goes_152 : decode cX6_goes 152 = .ok (.if_icmp .ge 95, 3) := by decide +kernel
theorem dX6_goes_155 : decode cX6_goes 155 = .ok (.aload_n 0, 1) := by decide +kernel
theorem dX6_goes_156 : decode cX6_goes 156 = .ok (.getfield 25, 3) := by decide +kernel
theorem dX6_goes_159 : decode cX6_goes 159 = .ok (.bipush 48, 2) := by decide +kernel
theorem dX6_goes_161 : decode cX6_goes 161 = .ok (.iload 4, 2) := by decide +kernel
theorem dX6_goes_163 : decode cX6_goes 163 = .ok (.imul, 1) := by decide +kernel
theorem dX6_goes_164 : decode cX6_goes 164 = .ok (.iload_n 1, 1) := by decide +kernel
theorem dX6_goes_165 : decode cX6_goes 165 = .ok (.iadd, 1) := by decide +kernel
theorem dX6_goes_166 : decode cX6_goes 166 = .ok (.iaload, 1) := by decide +kernel
theorem dX6_goes_167 : decode cX6_goes 167 = .ok (.istore 5, 2) := by decide +kernel
theorem dX6_goes_169 : decode cX6_goes 169 = .ok (.iload 5, 2) := by decide +kernel
theorem dX6_goes_171 : decode cX6_goes 171 = .ok (.aload_n 0, 1) := by decide +kernel
theorem dX6_goes_172 : decode cX6_goes 172 = .ok (.getfield 9, 3) := by decide +kernel
theorem dX6_goes_175 : decode cX6_goes 175 = .ok (.bipush 12, 2) := by decide +kernel
theorem dX6_goes_177 : decode cX6_goes 177 = .ok (.iload 4, 2) := by decide +kernel
theorem dX6_goes_179 : decode cX6_goes 179 = .ok (.iadd, 1) := by decide +kernel
theorem dX6_goes_180 : decode cX6_goes 180 = .ok (.iaload, 1) := by decide +kernel
theorem dX6_goes_181 : decode cX6_goes 181 = .ok (.invokestatic 111, 3) := by decide +kernel
theorem dX6_goes_184 : decode cX6_goes 184 = .ok (.istore 6, 2) := by decide +kernel
theorem dX6_goes_186 : decode cX6_goes 186 = .ok (.aload_n 0, 1) := by decide +kernel
theorem dX6_goes_187 : decode cX6_goes 187 = .ok (.getfield 9, 3) := by decide +kernel
theorem dX6_goes_190 : decode cX6_goes 190 = .ok (.bipush 12, 2) := by decide +kernel
theorem dX6_goes_192 : decode cX6_goes 192 = .ok (.iload 4, 2) := by decide +kernel
theorem dX6_goes_194 : decode cX6_goes 194 = .ok (.iadd, 1) := by decide +kernel
theorem dX6_goes_195 : decode cX6_goes 195 = .ok (.dup2, 1) := by decide +kernel
theorem dX6_goes_196 : decode cX6_goes 196 = .ok (.iaload, 1) := by decide +kernel
theorem dX6_goes_197 : decode cX6_goes 197 = .ok (.iload 6, 2) := by decide +kernel
theorem dX6_goes_199 : decode cX6_goes 199 = .ok (.isub, 1) := by decide +kernel
theorem dX6_goes_200 : decode cX6_goes 200 = .ok (.iastore, 1) := by decide +kernel
theorem dX6_goes_201 : decode cX6_goes 201 = .ok (.aload_n 0, 1) := by decide +kernel
theorem dX6_goes_202 : decode cX6_goes 202 = .ok (.dup, 1) := by decide +kernel
theorem dX6_goes_203 : decode cX6_goes 203 = .ok (.getfield 123, 3) := by decide +kernel
theorem dX6_goes_206 : decode cX6_goes 206 = .ok (.iload 6, 2) := by decide +kernel
theorem dX6_goes_208 : decode cX6_goes 208 = .ok (.iadd, 1) := by decide +kernel
theorem dX6_goes_209 : decode cX6_goes 209 = .ok (.putfield 123, 3) := by decide +kernel
theorem dX6_goes_212 : decode cX6_goes 212 = .ok (.aload_n 0, 1) := by decide +kernel
theorem dX6_goes_213 : decode cX6_goes 213 = .ok (.getfield 51, 3) := by decide +kernel
theorem dX6_goes_216 : decode cX6_goes 216 = .ok (.iload 4, 2) := by decide +kernel
theorem dX6_goes_218 : decode cX6_goes 218 = .ok (.iload 5, 2) := by decide +kernel
theorem dX6_goes_220 : decode cX6_goes 220 = .ok (.iload 6, 2) := by decide +kernel
theorem dX6_goes_222 : decode cX6_goes 222 = .ok (.isub, 1) := by decide +kernel
theorem dX6_goes_223 : decode cX6_goes 223 = .ok (.iastore, 1) := by decide +kernel
theorem dX6_goes_224 : decode cX6_goes 224 = .ok (.iload_n 3, 1) := by decide +kernel
theorem dX6_goes_225 : decode cX6_goes 225 = .ok (.ifCond .eq 14, 3) := by decide +kernel
theorem dX6_goes_228 : decode cX6_goes 228 = .ok (.iload 6, 2) := by decide +kernel
theorem dX6_goes_230 : decode cX6_goes 230 = .ok (.iload 5, 2) := by decide +kernel
theorem dX6_goes_232 : decode cX6_goes 232 = .ok (.if_icmp .ne 7, 3) := by decide +kernel
theorem dX6_goes_235 : decode cX6_goes 235 = .ok (.iconst 1, 1) := by decide +kernel
theorem dX6_goes_236 : decode cX6_goes 236 = .ok (.goto 4, 3) := by decide +kernel
theorem dX6_goes_239 : decode cX6_goes 239 = .ok (.iconst 0, 1) := by decide +kernel
theorem dX6_goes_240 : decode cX6_goes 240 = .ok (.istore_n 3, 1) := by decide +kernel
theorem dX6_goes_241 : decode cX6_goes 241 = .ok (.iinc 4 1, 3) := by decide +kernel
theorem dX6_goes_244 : decode cX6_goes 244 = .ok (.goto (-98), 3) := by decide +kernel
theorem dX6_goes_247 : decode cX6_goes 247 = .ok (.iload_n 3, 1) := by decide +kernel
theorem dX6_goes_248 : decode cX6_goes 248 = .ok (.ireturn, 1) := by decide +kernel
theorem dX6_orderAt_0 : decode cX6_orderAt 0 = .ok (.iconst 0, 1) := by decide +kernel
theorem dX6_orderAt_1 : decode cX6_orderAt 1 = .ok (.istore_n 2, 1) := by decide +kernel
theorem dX6_orderAt_2 : decode cX6_orderAt 2 = .ok (.iload_n 2, 1) := by decide +kernel
theorem dX6_orderAt_3 : decode cX6_orderAt 3 = .ok (.aload_n 0, 1) := by decide +kernel
theorem dX6_orderAt_4 : decode cX6_orderAt 4 = .ok (.getfield 136, 3) := by decide +kernel
theorem dX6_orderAt_7 : decode cX6_orderAt 7 = .ok (.if_icmp .ge 21, 3) := by decide +kernel
theorem dX6_orderAt_10 : decode cX6_orderAt 10 = .ok (.aload_n 0, 1) := by decide +kernel
theorem dX6_orderAt_11 : decode cX6_orderAt 11 = .ok (.getfield 44, 3) := by decide +kernel
theorem dX6_orderAt_14 : decode cX6_orderAt 14 = .ok (.iload_n 2, 1) := by decide +kernel
theorem dX6_orderAt_15 : decode cX6_orderAt 15 = .ok (.iaload, 1) := by decide +kernel
theorem dX6_orderAt_16 : decode cX6_orderAt 16 = .ok (.iload_n 1, 1) := by decide +kernel
theorem dX6_orderAt_17 : decode cX6_orderAt 17 = .ok (.if_icmp .ne 5, 3) := by decide +kernel
theorem dX6_orderAt_20 : decode cX6_orderAt 20 = .ok (.iload_n 2, 1) := by decide +kernel
theorem dX6_orderAt_21 : decode cX6_orderAt 21 = .ok (.ireturn, 1) := by decide +kernel
theorem dX6_orderAt_22 : decode cX6_orderAt 22 = .ok (.iinc 2 1, 3) := by decide +kernel
theorem dX6_orderAt_25 : decode cX6_orderAt 25 = .ok (.goto (-23), 3) := by decide +kernel
theorem dX6_orderAt_28 : decode cX6_orderAt 28 = .ok (.iconst (-1), 1) := by decide +kernel
theorem dX6_orderAt_29 : decode cX6_orderAt 29 = .ok (.ireturn, 1) := by decide +kernel
theorem dX6_forgets_0 : decode cX6_forgets 0 = .ok (.aload_n 0, 1) := by decide +kernel
theorem dX6_forgets_1 : decode cX6_forgets 1 = .ok (.dup, 1) := by decide +kernel
theorem dX6_forgets_2 : decode cX6_forgets 2 = .ok (.getfield 136, 3) := by decide +kernel
theorem dX6_forgets_5 : decode cX6_forgets 5 = .ok (.iconst 1, 1) := by decide +kernel
theorem dX6_forgets_6 : decode cX6_forgets 6 = .ok (.isub, 1) := by decide +kernel
theorem dX6_forgets_7 : decode cX6_forgets 7 = .ok (.putfield 136, 3) := by decide +kernel
theorem dX6_forgets_10 : decode cX6_forgets 10 = .ok (.aload_n 0, 1) := by decide +kernel
theorem dX6_forgets_11 : decode cX6_forgets 11 = .ok (.getfield 44, 3) := by decide +kernel
theorem dX6_forgets_14 : decode cX6_forgets 14 = .ok (.iload_n 1, 1) := by decide +kernel
theorem dX6_forgets_15 : decode cX6_forgets 15 = .ok (.aload_n 0, 1) := by decide +kernel
theorem dX6_forgets_16 : decode cX6_forgets 16 = .ok (.getfield 44, 3) := by decide +kernel
theorem dX6_forgets_19 : decode cX6_forgets 19 = .ok (.aload_n 0, 1) := by decide +kernel
theorem dX6_forgets_20 : decode cX6_forgets 20 = .ok (.getfield 136, 3) := by decide +kernel
theorem dX6_forgets_23 : decode cX6_forgets 23 = .ok (.iaload, 1) := by decide +kernel
theorem dX6_forgets_24 : decode cX6_forgets 24 = .ok (.iastore, 1) := by decide +kernel
theorem dX6_forgets_25 : decode cX6_forgets 25 = .ok (.aload_n 0, 1) := by decide +kernel
theorem dX6_forgets_26 : decode cX6_forgets 26 = .ok (.getfield 47, 3) := by decide +kernel
theorem dX6_forgets_29 : decode cX6_forgets 29 = .ok (.iload_n 1, 1) := by decide +kernel
theorem dX6_forgets_30 : decode cX6_forgets 30 = .ok (.aload_n 0, 1) := by decide +kernel
theorem dX6_forgets_31 : decode cX6_forgets 31 = .ok (.getfield 47, 3) := by decide +kernel
theorem dX6_forgets_34 : decode cX6_forgets 34 = .ok (.aload_n 0, 1) := by decide +kernel
theorem dX6_forgets_35 : decode cX6_forgets 35 = .ok (.getfield 136, 3) := by decide +kernel
theorem dX6_forgets_38 : decode cX6_forgets 38 = .ok (.baload, 1) := by decide +kernel
theorem dX6_forgets_39 : decode cX6_forgets 39 = .ok (.bastore, 1) := by decide +kernel
theorem dX6_forgets_40 : decode cX6_forgets 40 = .ok (.return_, 1) := by decide +kernel
theorem dX6_passes_0 : decode cX6_passes 0 = .ok (.aload_n 0, 1) := by decide +kernel
theorem dX6_passes_1 : decode cX6_passes 1 = .ok (.getfield 139, 3) := by decide +kernel
theorem dX6_passes_4 : decode cX6_passes 4 = .ok (.bipush 48, 2) := by decide +kernel
theorem dX6_passes_6 : decode cX6_passes 6 = .ok (.irem, 1) := by decide +kernel
theorem dX6_passes_7 : decode cX6_passes 7 = .ok (.istore_n 2, 1) := by decide +kernel
theorem dX6_passes_8 : decode cX6_passes 8 = .ok (.aload_n 0, 1) := by decide +kernel
theorem dX6_passes_9 : decode cX6_passes 9 = .ok (.iload_n 2, 1) := by decide +kernel
theorem dX6_passes_10 : decode cX6_passes 10 = .ok (.iload_n 1, 1) := by decide +kernel
theorem dX6_passes_11 : decode cX6_passes 11 = .ok (.invokevirtual 142, 3) := by decide +kernel
theorem dX6_passes_14 : decode cX6_passes 14 = .ok (.pop, 1) := by decide +kernel
theorem dX6_passes_15 : decode cX6_passes 15 = .ok (.aload_n 0, 1) := by decide +kernel
theorem dX6_passes_16 : decode cX6_passes 16 = .ok (.dup, 1) := by decide +kernel
theorem dX6_passes_17 : decode cX6_passes 17 = .ok (.getfield 146, 3) := by decide +kernel
theorem dX6_passes_20 : decode cX6_passes 20 = .ok (.aload_n 0, 1) := by decide +kernel
theorem dX6_passes_21 : decode cX6_passes 21 = .ok (.getfield 114, 3) := by decide +kernel
theorem dX6_passes_24 : decode cX6_passes 24 = .ok (.i2l, 1) := by decide +kernel
theorem dX6_passes_25 : decode cX6_passes 25 = .ok (.ladd, 1) := by decide +kernel
theorem dX6_passes_26 : decode cX6_passes 26 = .ok (.putfield 146, 3) := by decide +kernel
theorem dX6_passes_29 : decode cX6_passes 29 = .ok (.aload_n 0, 1) := by decide +kernel
theorem dX6_passes_30 : decode cX6_passes 30 = .ok (.dup, 1) := by decide +kernel
theorem dX6_passes_31 : decode cX6_passes 31 = .ok (.getfield 150, 3) := by decide +kernel
theorem dX6_passes_34 : decode cX6_passes 34 = .ok (.aload_n 0, 1) := by decide +kernel
theorem dX6_passes_35 : decode cX6_passes 35 = .ok (.getfield 117, 3) := by decide +kernel
theorem dX6_passes_38 : decode cX6_passes 38 = .ok (.i2l, 1) := by decide +kernel
theorem dX6_passes_39 : decode cX6_passes 39 = .ok (.ladd, 1) := by decide +kernel
theorem dX6_passes_40 : decode cX6_passes 40 = .ok (.putfield 150, 3) := by decide +kernel
theorem dX6_passes_43 : decode cX6_passes 43 = .ok (.aload_n 0, 1) := by decide +kernel
theorem dX6_passes_44 : decode cX6_passes 44 = .ok (.dup, 1) := by decide +kernel
theorem dX6_passes_45 : decode cX6_passes 45 = .ok (.getfield 153, 3) := by decide +kernel
theorem dX6_passes_48 : decode cX6_passes 48 = .ok (.aload_n 0, 1) := by decide +kernel
theorem dX6_passes_49 : decode cX6_passes 49 = .ok (.getfield 133, 3) := by decide +kernel
theorem dX6_passes_52 : decode cX6_passes 52 = .ok (.i2l, 1) := by decide +kernel
theorem dX6_passes_53 : decode cX6_passes 53 = .ok (.ladd, 1) := by decide +kernel
theorem dX6_passes_54 : decode cX6_passes 54 = .ok (.putfield 153, 3) := by decide +kernel
theorem dX6_passes_57 : decode cX6_passes 57 = .ok (.aload_n 0, 1) := by decide +kernel
theorem dX6_passes_58 : decode cX6_passes 58 = .ok (.dup, 1) := by decide +kernel
theorem dX6_passes_59 : decode cX6_passes 59 = .ok (.getfield 156, 3) := by decide +kernel
theorem dX6_passes_62 : decode cX6_passes 62 = .ok (.aload_n 0, 1) := by decide +kernel
theorem dX6_passes_63 : decode cX6_passes 63 = .ok (.getfield 123, 3) := by decide +kernel
theorem dX6_passes_66 : decode cX6_passes 66 = .ok (.i2l, 1) := by decide +kernel
theorem dX6_passes_67 : decode cX6_passes 67 = .ok (.ladd, 1) := by decide +kernel
theorem dX6_passes_68 : decode cX6_passes 68 = .ok (.putfield 156, 3) := by decide +kernel
theorem dX6_passes_71 : decode cX6_passes 71 = .ok (.aload_n 0, 1) := by decide +kernel
theorem dX6_passes_72 : decode cX6_passes 72 = .ok (.dup, 1) := by decide +kernel
theorem dX6_passes_73 : decode cX6_passes 73 = .ok (.getfield 159, 3) := by decide +kernel
theorem dX6_passes_76 : decode cX6_passes 76 = .ok (.aload_n 0, 1) := by decide +kernel
theorem dX6_passes_77 : decode cX6_passes 77 = .ok (.getfield 120, 3) := by decide +kernel
theorem dX6_passes_80 : decode cX6_passes 80 = .ok (.aload_n 0, 1) := by decide +kernel
theorem dX6_passes_81 : decode cX6_passes 81 = .ok (.getfield 31, 3) := by decide +kernel
theorem dX6_passes_84 : decode cX6_passes 84 = .ok (.iload_n 2, 1) := by decide +kernel
theorem dX6_passes_85 : decode cX6_passes 85 = .ok (.iaload, 1) := by decide +kernel
theorem dX6_passes_86 : decode cX6_passes 86 = .ok (.imul, 1) := by decide +kernel
theorem dX6_passes_87 : decode cX6_passes 87 = .ok (.i2l, 1) := by decide +kernel
theorem dX6_passes_88 : decode cX6_passes 88 = .ok (.ladd, 1) := by decide +kernel
theorem dX6_passes_89 : decode cX6_passes 89 = .ok (.putfield 159, 3) := by decide +kernel
theorem dX6_passes_92 : decode cX6_passes 92 = .ok (.iconst 0, 1) := by decide +kernel
theorem dX6_passes_93 : decode cX6_passes 93 = .ok (.istore_n 3, 1) := by decide +kernel
theorem dX6_passes_94 : decode cX6_passes 94 = .ok (.iload_n 3, 1) := by decide +kernel
theorem dX6_passes_95 : decode cX6_passes 95 = .ok (.aload_n 0, 1) := by decide +kernel
theorem dX6_passes_96 : decode cX6_passes 96 = .ok (.getfield 64, 3) := by decide +kernel
theorem dX6_passes_99 : decode cX6_passes 99 = .ok (.if_icmp .ge 45, 3) := by decide +kernel
theorem dX6_passes_102 : decode cX6_passes 102 = .ok (.aload_n 0, 1) := by decide +kernel
theorem dX6_passes_103 : decode cX6_passes 103 = .ok (.getfield 28, 3) := by decide +kernel
theorem dX6_passes_106 : decode cX6_passes 106 = .ok (.iload_n 3, 1) := by decide +kernel
theorem dX6_passes_107 : decode cX6_passes 107 = .ok (.dup2, 1) := by decide +kernel
theorem dX6_passes_108 : decode cX6_passes 108 = .ok (.iaload, 1) := by decide +kernel
theorem dX6_passes_109 : decode cX6_passes 109 = .ok (.aload_n 0, 1) := by decide +kernel
theorem dX6_passes_110 : decode cX6_passes 110 = .ok (.getfield 51, 3) := by decide +kernel
theorem dX6_passes_113 : decode cX6_passes 113 = .ok (.iload_n 3, 1) := by decide +kernel
theorem dX6_passes_114 : decode cX6_passes 114 = .ok (.iaload, 1) := by decide +kernel
theorem dX6_passes_115 : decode cX6_passes 115 = .ok (.iadd, 1) := by decide +kernel
theorem dX6_passes_116 : decode cX6_passes 116 = .ok (.iastore, 1) := by decide +kernel
theorem dX6_passes_117 : decode cX6_passes 117 = .ok (.aload_n 0, 1) := by decide +kernel
theorem dX6_passes_118 : decode cX6_passes 118 = .ok (.dup, 1) := by decide +kernel
theorem dX6_passes_119 : decode cX6_passes 119 = .ok (.getfield 162, 3) := by decide +kernel
theorem dX6_passes_122 : decode cX6_passes 122 = .ok (.aload_n 0, 1) := by decide +kernel
theorem dX6_passes_123 : decode cX6_passes 123 = .ok (.getfield 25, 3) := by decide +kernel
theorem dX6_passes_126 : decode cX6_passes 126 = .ok (.bipush 48, 2) := by decide +kernel
theorem dX6_passes_128 : decode cX6_passes 128 = .ok (.iload_n 3, 1) := by decide +kernel
theorem dX6_passes_129 : decode cX6_passes 129 = .ok (.imul, 1) := by decide +kernel
theorem dX6_passes_130 : decode cX6_passes 130 = .ok (.iload_n 2, 1) := by decide +kernel
theorem dX6_passes_131 : decode cX6_passes 131 = .ok (.iadd, 1) := by decide +kernel
theorem dX6_passes_132 : decode cX6_passes 132 = .ok (.iaload, 1) := by decide +kernel
theorem dX6_passes_133 : decode cX6_passes 133 = .ok (.i2l, 1) := by decide +kernel
theorem dX6_passes_134 : decode cX6_passes 134 = .ok (.ladd, 1) := by decide +kernel
theorem dX6_passes_135 : decode cX6_passes 135 = .ok (.putfield 162, 3) := by decide +kernel
theorem dX6_passes_138 : decode cX6_passes 138 = .ok (.iinc 3 1, 3) := by decide +kernel
theorem dX6_passes_141 : decode cX6_passes 141 = .ok (.goto (-47), 3) := by decide +kernel
theorem dX6_passes_144 : decode cX6_passes 144 = .ok (.aload_n 0, 1) := by decide +kernel
theorem dX6_passes_145 : decode cX6_passes 145 = .ok (.aload_n 0, 1) := by decide +kernel
theorem dX6_passes_146 : decode cX6_passes 146 = .ok (.getfield 139, 3) := by decide +kernel
theorem dX6_passes_149 : decode cX6_passes 149 = .ok (.invokevirtual 165, 3) := by decide +kernel
theorem dX6_passes_152 : decode cX6_passes 152 = .ok (.iconst (-1), 1) := by decide +kernel
theorem dX6_passes_153 : decode cX6_passes 153 = .ok (.if_icmp .eq 15, 3) := by decide +kernel
theorem dX6_passes_156 : decode cX6_passes 156 = .ok (.aload_n 0, 1) := by decide +kernel
theorem dX6_passes_157 : decode cX6_passes 157 = .ok (.aload_n 0, 1) := by decide +kernel
theorem dX6_passes_158 : decode cX6_passes 158 = .ok (.aload_n 0, 1) := by decide +kernel
theorem dX6_passes_159 : decode cX6_passes 159 = .ok (.getfield 139, 3) := by decide +kernel
theorem dX6_passes_162 : decode cX6_passes 162 = .ok (.invokevirtual 165, 3) := by decide +kernel
theorem dX6_passes_165 : decode cX6_passes 165 = .ok (.invokevirtual 168, 3) := by decide +kernel
theorem dX6_passes_168 : decode cX6_passes 168 = .ok (.aload_n 0, 1) := by decide +kernel
theorem dX6_passes_169 : decode cX6_passes 169 = .ok (.dup, 1) := by decide +kernel
theorem dX6_passes_170 : decode cX6_passes 170 = .ok (.getfield 139, 3) := by decide +kernel
theorem dX6_passes_173 : decode cX6_passes 173 = .ok (.iconst 1, 1) := by decide +kernel
theorem dX6_passes_174 : decode cX6_passes 174 = .ok (.iadd, 1) := by decide +kernel
theorem dX6_passes_175 : decode cX6_passes 175 = .ok (.putfield 139, 3) := by decide +kernel
theorem dX6_passes_178 : decode cX6_passes 178 = .ok (.return_, 1) := by decide +kernel
theorem dX6_pass_0 : decode cX6_pass 0 = .ok (.aload_n 0, 1) := by decide +kernel
theorem dX6_pass_1 : decode cX6_pass 1 = .ok (.iconst 0, 1) := by decide +kernel
theorem dX6_pass_2 : decode cX6_pass 2 = .ok (.putfield 54, 3) := by decide +kernel
theorem dX6_pass_5 : decode cX6_pass 5 = .ok (.aload_n 0, 1) := by decide +kernel
theorem dX6_pass_6 : decode cX6_pass 6 = .ok (.iload_n 1, 1) := by decide +kernel
theorem dX6_pass_7 : decode cX6_pass 7 = .ok (.invokevirtual 171, 3) := by decide +kernel
theorem dX6_pass_10 : decode cX6_pass 10 = .ok (.aload_n 0, 1) := by decide +kernel
theorem dX6_pass_11 : decode cX6_pass 11 = .ok (.getfield 114, 3) := by decide +kernel
theorem dX6_pass_14 : decode cX6_pass 14 = .ok (.ireturn, 1) := by decide +kernel
theorem dX6_run_0 : decode cX6_run 0 = .ok (.aload_n 0, 1) := by decide +kernel
theorem dX6_run_1 : decode cX6_run 1 = .ok (.iload_n 1, 1) := by decide +kernel
theorem dX6_run_2 : decode cX6_run 2 = .ok (.i2l, 1) := by decide +kernel
theorem dX6_run_3 : decode cX6_run 3 = .ok (.lconst 1, 1) := by decide +kernel
theorem dX6_run_4 : decode cX6_run 4 = .ok (.ldc2_w 175, 3) := by decide +kernel
theorem dX6_run_7 : decode cX6_run 7 = .ok (.invokestatic 60, 3) := by decide +kernel
theorem dX6_run_10 : decode cX6_run 10 = .ok (.ifCond .eq 7, 3) := by decide +kernel
theorem dX6_run_13 : decode cX6_run 13 = .ok (.iconst 0, 1) := by decide +kernel
theorem dX6_run_14 : decode cX6_run 14 = .ok (.goto 4, 3) := by decide +kernel
theorem dX6_run_17 : decode cX6_run 17 = .ok (.iconst 1, 1) := by decide +kernel
theorem dX6_run_18 : decode cX6_run 18 = .ok (.putfield 54, 3) := by decide +kernel
theorem dX6_run_21 : decode cX6_run 21 = .ok (.aload_n 0, 1) := by decide +kernel
theorem dX6_run_22 : decode cX6_run 22 = .ok (.getfield 54, 3) := by decide +kernel
theorem dX6_run_25 : decode cX6_run 25 = .ok (.ifCond .le 5, 3) := by decide +kernel
theorem dX6_run_28 : decode cX6_run 28 = .ok (.iconst (-1), 1) := by decide +kernel
theorem dX6_run_29 : decode cX6_run 29 = .ok (.ireturn, 1) := by decide +kernel
theorem dX6_run_30 : decode cX6_run 30 = .ok (.iconst 0, 1) := by decide +kernel
theorem dX6_run_31 : decode cX6_run 31 = .ok (.istore_n 2, 1) := by decide +kernel
theorem dX6_run_32 : decode cX6_run 32 = .ok (.iconst 0, 1) := by decide +kernel
theorem dX6_run_33 : decode cX6_run 33 = .ok (.istore_n 3, 1) := by decide +kernel
theorem dX6_run_34 : decode cX6_run 34 = .ok (.iload_n 3, 1) := by decide +kernel
theorem dX6_run_35 : decode cX6_run 35 = .ok (.iload_n 1, 1) := by decide +kernel
theorem dX6_run_36 : decode cX6_run 36 = .ok (.if_icmp .ge 98, 3) := by decide +kernel
theorem dX6_run_39 : decode cX6_run 39 = .ok (.aload_n 0, 1) := by decide +kernel
theorem dX6_run_40 : decode cX6_run 40 = .ok (.aload_n 0, 1) := by decide +kernel
theorem dX6_run_41 : decode cX6_run 41 = .ok (.getfield 139, 3) := by decide +kernel
theorem dX6_run_44 : decode cX6_run 44 = .ok (.invokevirtual 165, 3) := by decide +kernel
theorem dX6_run_47 : decode cX6_run 47 = .ok (.istore 4, 2) := by decide +kernel
theorem dX6_run_49 : decode cX6_run 49 = .ok (.iconst 1, 1) := by decide +kernel
theorem dX6_run_50 : decode cX6_run 50 = .ok (.istore 5, 2) := by decide +kernel
theorem dX6_run_52 : decode cX6_run 52 = .ok (.iload 4, 2) := by decide +kernel
theorem dX6_run_54 : decode cX6_run 54 = .ok (.iconst (-1), 1) := by decide +kernel
theorem dX6_run_55 : decode cX6_run 55 = .ok (.if_icmp .eq 15, 3) := by decide +kernel
theorem dX6_run_58 : decode cX6_run 58 = .ok (.aload_n 0, 1) := by decide +kernel
theorem dX6_run_59 : decode cX6_run 59 = .ok (.getfield 47, 3) := by decide +kernel
theorem dX6_run_62 : decode cX6_run 62 = .ok (.iload 4, 2) := by decide +kernel
theorem dX6_run_64 : decode cX6_run 64 = .ok (.baload, 1) := by decide +kernel
theorem dX6_run_65 : decode cX6_run 65 = .ok (.istore 5, 2) := by decide +kernel
theorem dX6_run_67 : decode cX6_run 67 = .ok (.goto 42, 3) := by decide +kernel
theorem dX6_run_70 : decode cX6_run 70 = .ok (.aload_n 0, 1) := by decide +kernel
theorem dX6_run_71 : decode cX6_run 71 = .ok (.aload_n 0, 1) := by decide +kernel
theorem dX6_run_72 : decode cX6_run 72 = .ok (.getfield 41, 3) := by decide +kernel
theorem dX6_run_75 : decode cX6_run 75 = .ok (.invokevirtual 177, 3) := by decide +kernel
theorem dX6_run_78 : decode cX6_run 78 = .ok (.aload_n 0, 1) := by decide +kernel
theorem dX6_run_79 : decode cX6_run 79 = .ok (.getfield 180, 3) := by decide +kernel
theorem dX6_run_82 : decode cX6_run 82 = .ok (.ifCond .eq 20, 3) := by decide +kernel
theorem dX6_run_85 : decode cX6_run 85 = .ok (.aload_n 0, 1) := by decide +kernel
theorem dX6_run_86 : decode cX6_run 86 = .ok (.getfield 183, 3) := by decide +kernel
theorem dX6_run_89 : decode cX6_run 89 = .ok (.aload_n 0, 1) := by decide +kernel
theorem dX6_run_90 : decode cX6_run 90 = .ok (.getfield 41, 3) := by decide +kernel
theorem dX6_run_93 : decode cX6_run 93 = .ok (.iconst 1, 1) := by decide +kernel
theorem dX6_run_94 : decode cX6_run 94 = .ok (.isub, 1) := by decide +kernel
theorem dX6_run_95 : decode cX6_run 95 = .ok (.ishr, 1) := by decide +kernel
theorem dX6_run_96 : decode cX6_run 96 = .ok (.iconst 1, 1) := by decide +kernel
theorem dX6_run_97 : decode cX6_run 97 = .ok (.iand, 1) := by decide +kernel
theorem dX6_run_98 : decode cX6_run 98 = .ok (.iconst 1, 1) := by decide +kernel
theorem dX6_run_99 : decode cX6_run 99 = .ok (.if_icmp .ne 7, 3) := by decide +kernel
theorem dX6_run_102 : decode cX6_run 102 = .ok (.iconst 1, 1) := by decide +kernel
theorem dX6_run_103 : decode cX6_run 103 = .ok (.goto 4, 3) := by decide +kernel
theorem dX6_run_106 : decode cX6_run 106 = .ok (.iconst 0, 1) := by decide +kernel
theorem dX6_run_107 : decode cX6_run 107 = .ok (.istore 5, 2) := by decide +kernel
theorem dX6_run_109 : decode cX6_run 109 = .ok (.iload_n 2, 1) := by decide +kernel
theorem dX6_run_110 : decode cX6_run 110 = .ok (.iload 5, 2) := by decide +kernel
theorem dX6_run_112 : decode cX6_run 112 = .ok (.ifCond .eq 7, 3) := by decide +kernel
theorem dX6_run_115 : decode cX6_run 115 = .ok (.iconst 1, 1) := by decide +kernel
theorem dX6_run_116 : decode cX6_run 116 = .ok (.goto 4, 3) := by decide +kernel
theorem dX6_run_119 : decode cX6_run 119 = .ok (.iconst 0, 1) := by decide +kernel
theorem dX6_run_120 : decode cX6_run 120 = .ok (.iadd, 1) := by decide +kernel
theorem dX6_run_121 : decode cX6_run 121 = .ok (.istore_n 2, 1) := by decide +kernel
theorem dX6_run_122 : decode cX6_run 122 = .ok (.aload_n 0, 1) := by decide +kernel
theorem dX6_run_123 : decode cX6_run 123 = .ok (.iload 5, 2) := by decide +kernel
theorem dX6_run_125 : decode cX6_run 125 = .ok (.invokevirtual 171, 3) := by decide +kernel
theorem dX6_run_128 : decode cX6_run 128 = .ok (.iinc 3 1, 3) := by decide +kernel
theorem dX6_run_131 : decode cX6_run 131 = .ok (.goto (-97), 3) := by decide +kernel
theorem dX6_run_134 : decode cX6_run 134 = .ok (.iload_n 2, 1) := by decide +kernel
theorem dX6_run_135 : decode cX6_run 135 = .ok (.ireturn, 1) := by decide +kernel
theorem dX6_setHorizon_0 : decode cX6_setHorizon 0 = .ok (.aload_n 0, 1) := by decide +kernel
theorem dX6_setHorizon_1 : decode cX6_setHorizon 1 = .ok (.iload_n 1, 1) := by decide +kernel
theorem dX6_setHorizon_2 : decode cX6_setHorizon 2 = .ok (.i2l, 1) := by decide +kernel
theorem dX6_setHorizon_3 : decode cX6_setHorizon 3 = .ok (.lconst 1, 1) := by decide +kernel
theorem dX6_setHorizon_4 : decode cX6_setHorizon 4 = .ok (.ldc2_w 186, 3) := by decide +kernel
theorem dX6_setHorizon_7 : decode cX6_setHorizon 7 = .ok (.invokestatic 60, 3) := by decide +kernel
theorem dX6_setHorizon_10 : decode cX6_setHorizon 10 = .ok (.ifCond .eq 7, 3) := by decide +kernel
theorem dX6_setHorizon_13 : decode cX6_setHorizon 13 = .ok (.iconst 0, 1) := by decide +kernel
theorem dX6_setHorizon_14 : decode cX6_setHorizon 14 = .ok (.goto 4, 3) := by decide +kernel
theorem dX6_setHorizon_17 : decode cX6_setHorizon 17 = .ok (.iconst 1, 1) := by decide +kernel
theorem dX6_setHorizon_18 : decode cX6_setHorizon 18 = .ok (.putfield 54, 3) := by decide +kernel
theorem dX6_setHorizon_21 : decode cX6_setHorizon 21 = .ok (.aload_n 0, 1) := by decide +kernel
theorem dX6_setHorizon_22 : decode cX6_setHorizon 22 = .ok (.getfield 41, 3) := by decide +kernel
theorem dX6_setHorizon_25 : decode cX6_setHorizon 25 = .ok (.istore_n 2, 1) := by decide +kernel
theorem dX6_setHorizon_26 : decode cX6_setHorizon 26 = .ok (.aload_n 0, 1) := by decide +kernel
theorem dX6_setHorizon_27 : decode cX6_setHorizon 27 = .ok (.aload_n 0, 1) := by decide +kernel
theorem dX6_setHorizon_28 : decode cX6_setHorizon 28 = .ok (.getfield 54, 3) := by decide +kernel
theorem dX6_setHorizon_31 : decode cX6_setHorizon 31 = .ok (.ifCond .ne 7, 3) := by decide +kernel
theorem dX6_setHorizon_34 : decode cX6_setHorizon 34 = .ok (.iload_n 1, 1) := by decide +kernel
theorem dX6_setHorizon_35 : decode cX6_setHorizon 35 = .ok (.goto 4, 3) := by decide +kernel
theorem dX6_setHorizon_38 : decode cX6_setHorizon 38 = .ok (.iload_n 2, 1) := by decide +kernel
theorem dX6_setHorizon_39 : decode cX6_setHorizon 39 = .ok (.putfield 41, 3) := by decide +kernel
theorem dX6_setHorizon_42 : decode cX6_setHorizon 42 = .ok (.aload_n 0, 1) := by decide +kernel
theorem dX6_setHorizon_43 : decode cX6_setHorizon 43 = .ok (.getfield 54, 3) := by decide +kernel
theorem dX6_setHorizon_46 : decode cX6_setHorizon 46 = .ok (.ifCond .ne 7, 3) := by decide +kernel
theorem dX6_setHorizon_49 : decode cX6_setHorizon 49 = .ok (.iload_n 2, 1) := by decide +kernel
theorem dX6_setHorizon_50 : decode cX6_setHorizon 50 = .ok (.goto 4, 3) := by decide +kernel
theorem dX6_setHorizon_53 : decode cX6_setHorizon 53 = .ok (.iconst (-1), 1) := by decide +kernel
theorem dX6_setHorizon_54 : decode cX6_setHorizon 54 = .ok (.ireturn, 1) := by decide +kernel
theorem dX6_order_0 : decode cX6_order 0 = .ok (.aload_n 0, 1) := by decide +kernel
theorem dX6_order_1 : decode cX6_order 1 = .ok (.iload_n 1, 1) := by decide +kernel
theorem dX6_order_2 : decode cX6_order 2 = .ok (.invokevirtual 165, 3) := by decide +kernel
theorem dX6_order_5 : decode cX6_order 5 = .ok (.istore_n 3, 1) := by decide +kernel
theorem dX6_order_6 : decode cX6_order 6 = .ok (.aload_n 0, 1) := by decide +kernel
theorem dX6_order_7 : decode cX6_order 7 = .ok (.iload_n 1, 1) := by decide +kernel
theorem dX6_order_8 : decode cX6_order 8 = .ok (.aload_n 0, 1) := by decide +kernel
theorem dX6_order_9 : decode cX6_order 9 = .ok (.getfield 139, 3) := by decide +kernel
theorem dX6_order_12 : decode cX6_order 12 = .ok (.if_icmp .ge 7, 3) := by decide +kernel
theorem dX6_order_15 : decode cX6_order 15 = .ok (.iconst 1, 1) := by decide +kernel
theorem dX6_order_16 : decode cX6_order 16 = .ok (.goto 22, 3) := by decide +kernel
theorem dX6_order_19 : decode cX6_order 19 = .ok (.iload_n 3, 1) := by decide +kernel
theorem dX6_order_20 : decode cX6_order 20 = .ok (.iconst (-1), 1) := by decide +kernel
theorem dX6_order_21 : decode cX6_order 21 = .ok (.if_icmp .ne 16, 3) := by decide +kernel
theorem dX6_order_24 : decode cX6_order 24 = .ok (.aload_n 0, 1) := by decide +kernel
theorem dX6_order_25 : decode cX6_order 25 = .ok (.getfield 136, 3) := by decide +kernel
theorem dX6_order_28 : decode cX6_order 28 = .ok (.bipush 6, 2) := by decide +kernel
theorem dX6_order_30 : decode cX6_order 30 = .ok (.if_icmp .ne 7, 3) := by decide +kernel
theorem dX6_order_33 : decode cX6_order 33 = .ok (.iconst 2, 1) := by decide +kernel
theorem dX6_order_34 : decode cX6_order 34 = .ok (.goto 4, 3) := by decide +kernel
theorem dX6_order_37 : decode cX6_order 37 = .ok (.iconst 0, 1) := by decide +kernel
theorem dX6_order_38 : decode cX6_order 38 = .ok (.putfield 54, 3) := by decide +kernel
theorem dX6_order_41 : decode cX6_order 41 = .ok (.aload_n 0, 1) := by decide +kernel
theorem dX6_order_42 : decode cX6_order 42 = .ok (.getfield 54, 3) := by decide +kernel
theorem dX6_order_45 : decode cX6_order 45 = .ok (.ifCond .le 5, 3) := by decide +kernel
theorem dX6_order_48 : decode cX6_order 48 = .ok (.iconst (-1), 1) := by decide +kernel
theorem dX6_order_49 : decode cX6_order 49 = .ok (.ireturn, 1) := by decide +kernel
theorem dX6_order_50 : decode cX6_order 50 = .ok (.iload_n 3, 1) := by decide +kernel
theorem dX6_order_51 : decode cX6_order 51 = .ok (.iconst (-1), 1) := by decide +kernel
theorem dX6_order_52 : decode cX6_order 52 = .ok (.if_icmp .ne 25, 3) := by decide +kernel
theorem dX6_order_55 : decode cX6_order 55 = .ok (.aload_n 0, 1) := by decide +kernel
theorem dX6_order_56 : decode cX6_order 56 = .ok (.getfield 136, 3) := by decide +kernel
theorem dX6_order_59 : decode cX6_order 59 = .ok (.istore_n 3, 1) := by decide +kernel
theorem dX6_order_60 : decode cX6_order 60 = .ok (.aload_n 0, 1) := by decide +kernel
theorem dX6_order_61 : decode cX6_order 61 = .ok (.getfield 44, 3) := by decide +kernel
theorem dX6_order_64 : decode cX6_order 64 = .ok (.iload_n 3, 1) := by decide +kernel
theorem dX6_order_65 : decode cX6_order 65 = .ok (.iload_n 1, 1) := by decide +kernel
theorem dX6_order_66 : decode cX6_order 66 = .ok (.iastore, 1) := by decide +kernel
theorem dX6_order_67 : decode cX6_order 67 = .ok (.aload_n 0, 1) := by decide +kernel
theorem dX6_order_68 : decode cX6_order 68 = .ok (.dup, 1) := by decide +kernel
theorem dX6_order_69 : decode cX6_order 69 = .ok (.getfield 136, 3) := by decide +kernel
theorem dX6_order_72 : decode cX6_order 72 = .ok (.iconst 1, 1) := by decide +kernel
theorem dX6_order_73 : decode cX6_order 73 = .ok (.iadd, 1) := by decide +kernel
theorem dX6_order_74 : decode cX6_order 74 = .ok (.putfield 136, 3) := by decide +kernel
theorem dX6_order_77 : decode cX6_order 77 = .ok (.aload_n 0, 1) := by decide +kernel
theorem dX6_order_78 : decode cX6_order 78 = .ok (.getfield 47, 3) := by decide +kernel
theorem dX6_order_81 : decode cX6_order 81 = .ok (.iload_n 3, 1) := by decide +kernel
theorem dX6_order_82 : decode cX6_order 82 = .ok (.iload_n 2, 1) := by decide +kernel
theorem dX6_order_83 : decode cX6_order 83 = .ok (.bastore, 1) := by decide +kernel
theorem dX6_order_84 : decode cX6_order 84 = .ok (.aload_n 0, 1) := by decide +kernel
theorem dX6_order_85 : decode cX6_order 85 = .ok (.getfield 136, 3) := by decide +kernel
theorem dX6_order_88 : decode cX6_order 88 = .ok (.ireturn, 1) := by decide +kernel
theorem dX6_takeBack_0 : decode cX6_takeBack 0 = .ok (.aload_n 0, 1) := by decide +kernel
theorem dX6_takeBack_1 : decode cX6_takeBack 1 = .ok (.iload_n 1, 1) := by decide +kernel
theorem dX6_takeBack_2 : decode cX6_takeBack 2 = .ok (.invokevirtual 165, 3) := by decide +kernel
theorem dX6_takeBack_5 : decode cX6_takeBack 5 = .ok (.istore_n 2, 1) := by decide +kernel
theorem dX6_takeBack_6 : decode cX6_takeBack 6 = .ok (.aload_n 0, 1) := by decide +kernel
theorem dX6_takeBack_7 : decode cX6_takeBack 7 = .ok (.iload_n 2, 1) := by decide +kernel
theorem dX6_takeBack_8 : decode cX6_takeBack 8 = .ok (.iconst (-1), 1) := by decide +kernel
theorem dX6_takeBack_9 : decode cX6_takeBack 9 = .ok (.if_icmp .ne 7, 3) := by decide +kernel
theorem dX6_takeBack_12 : decode cX6_takeBack 12 = .ok (.iconst 1, 1) := by decide +kernel
theorem dX6_takeBack_13 : decode cX6_takeBack 13 = .ok (.goto 4, 3) := by decide +kernel
theorem dX6_takeBack_16 : decode cX6_takeBack 16 = .ok (.iconst 0, 1) := by decide +kernel
theorem dX6_takeBack_17 : decode cX6_takeBack 17 = .ok (.putfield 54, 3) := by decide +kernel
theorem dX6_takeBack_20 : decode cX6_takeBack 20 = .ok (.aload_n 0, 1) := by decide +kernel
theorem dX6_takeBack_21 : decode cX6_takeBack 21 = .ok (.getfield 54, 3) := by decide +kernel
theorem dX6_takeBack_24 : decode cX6_takeBack 24 = .ok (.ifCond .ne 16, 3) := by decide +kernel
theorem dX6_takeBack_27 : decode cX6_takeBack 27 = .ok (.aload_n 0, 1) := by decide +kernel
theorem dX6_takeBack_28 : decode cX6_takeBack 28 = .ok (.getfield 47, 3) := by decide +kernel
theorem dX6_takeBack_31 : decode cX6_takeBack 31 = .ok (.iload_n 2, 1) := by decide +kernel
theorem dX6_takeBack_32 : decode cX6_takeBack 32 = .ok (.baload, 1) := by decide +kernel
theorem dX6_takeBack_33 : decode cX6_takeBack 33 = .ok (.ifCond .eq 7, 3) := by decide +kernel
theorem dX6_takeBack_36 : decode cX6_takeBack 36 = .ok (.iconst 1, 1) := by decide +kernel
theorem dX6_takeBack_37 : decode cX6_takeBack 37 = .ok (.goto 4, 3) := by decide +kernel
theorem dX6_takeBack_40 : decode cX6_takeBack 40 = .ok (.iconst 0, 1) := by decide +kernel
theorem dX6_takeBack_41 : decode cX6_takeBack 41 = .ok (.istore_n 3, 1) := by decide +kernel
theorem dX6_takeBack_42 : decode cX6_takeBack 42 = .ok (.aload_n 0, 1) := by decide +kernel
theorem dX6_takeBack_43 : decode cX6_takeBack 43 = .ok (.getfield 54, 3) := by decide +kernel
theorem dX6_takeBack_46 : decode cX6_takeBack 46 = .ok (.ifCond .ne 8, 3) := by decide +kernel
theorem dX6_takeBack_49 : decode cX6_takeBack 49 = .ok (.aload_n 0, 1) := by decide +kernel
theorem dX6_takeBack_50 : decode cX6_takeBack 50 = .ok (.iload_n 2, 1) := by decide +kernel
theorem dX6_takeBack_51 : decode cX6_takeBack 51 = .ok (.invokevirtual 168, 3) := by decide +kernel
theorem dX6_takeBack_54 : decode cX6_takeBack 54 = .ok (.iload_n 3, 1) := by decide +kernel
theorem dX6_takeBack_55 : decode cX6_takeBack 55 = .ok (.ireturn, 1) := by decide +kernel
theorem dX6_halfHour_0 : decode cX6_halfHour 0 = .ok (.aload_n 0, 1) := by decide +kernel
theorem dX6_halfHour_1 : decode cX6_halfHour 1 = .ok (.iconst 0, 1) := by decide +kernel
theorem dX6_halfHour_2 : decode cX6_halfHour 2 = .ok (.putfield 54, 3) := by decide +kernel
theorem dX6_halfHour_5 : decode cX6_halfHour 5 = .ok (.aload_n 0, 1) := by decide +kernel
theorem dX6_halfHour_6 : decode cX6_halfHour 6 = .ok (.getfield 139, 3) := by decide +kernel
theorem dX6_halfHour_9 : decode cX6_halfHour 9 = .ok (.ireturn, 1) := by decide +kernel
theorem dX6_isAllowed_0 : decode cX6_isAllowed 0 = .ok (.aload_n 0, 1) := by decide +kernel
theorem dX6_isAllowed_1 : decode cX6_isAllowed 1 = .ok (.iconst 0, 1) := by decide +kernel
theorem dX6_isAllowed_2 : decode cX6_isAllowed 2 = .ok (.putfield 188, 3) := by decide +kernel
theorem dX6_isAllowed_5 : decode cX6_isAllowed 5 = .ok (.iconst 1, 1) := by decide +kernel
theorem dX6_isAllowed_6 : decode cX6_isAllowed 6 = .ok (.istore_n 3, 1) := by decide +kernel
theorem dX6_isAllowed_7 : decode cX6_isAllowed 7 = .ok (.iconst 0, 1) := by decide +kernel
theorem dX6_isAllowed_8 : decode cX6_isAllowed 8 = .ok (.istore 4, 2) := by decide +kernel
theorem dX6_isAllowed_10 : decode cX6_isAllowed 10 = .ok (.iload 4, 2) := by decide +kernel
theorem dX6_isAllowed_12 : decode cX6_isAllowed 12 = .ok (.iload_n 2, 1) := by decide +kernel
theorem dX6_isAllowed_13 : decode cX6_isAllowed 13 = .ok (.if_icmp .ge 125, 3) := by decide +kernel
theorem dX6_isAllowed_16 : decode cX6_isAllowed 16 = .ok (.iload_n 3, 1) := by decide +kernel
theorem dX6_isAllowed_17 : decode cX6_isAllowed 17 = .ok (.ifCond .eq 121, 3) := by decide +kernel
theorem dX6_isAllowed_20 : decode cX6_isAllowed 20 = .ok (.iload_n 1, 1) := by decide +kernel
theorem dX6_isAllowed_21 : decode cX6_isAllowed 21 = .ok (.iload_n 2, 1) := by decide +kernel
theorem dX6_isAllowed_22 : decode cX6_isAllowed 22 = .ok (.iconst 1, 1) := by decide +kernel
theorem dX6_isAllowed_23 : decode cX6_isAllowed 23 = .ok (.isub, 1) := by decide +kernel
theorem dX6_isAllowed_24 : decode cX6_isAllowed 24 = .ok (.iload 4, 2) := by decide +kernel
theorem dX6_isAllowed_26 : decode cX6_isAllowed 26 = .ok (.isub, 1) := by decide +kernel
theorem dX6_isAllowed_27 : decode cX6_isAllowed 27 = .ok (.ishr, 1) := by decide +kernel
theorem dX6_isAllowed_28 : decode cX6_isAllowed 28 = .ok (.iconst 1, 1) := by decide +kernel
theorem dX6_isAllowed_29 : decode cX6_isAllowed 29 = .ok (.iand, 1) := by decide +kernel
theorem dX6_isAllowed_30 : decode cX6_isAllowed 30 = .ok (.iconst 1, 1) := by decide +kernel
theorem dX6_isAllowed_31 : decode cX6_isAllowed 31 = .ok (.if_icmp .ne 7, 3) := by decide +kernel
theorem dX6_isAllowed_34 : decode cX6_isAllowed 34 = .ok (.iconst 1, 1) := by decide +kernel
theorem dX6_isAllowed_35 : decode cX6_isAllowed 35 = .ok (.goto 4, 3) := by decide +kernel
theorem dX6_isAllowed_38 : decode cX6_isAllowed 38 = .ok (.iconst 0, 1) := by decide +kernel
theorem dX6_isAllowed_39 : decode cX6_isAllowed 39 = .ok (.istore 5, 2) := by decide +kernel
theorem dX6_isAllowed_41 : decode cX6_isAllowed 41 = .ok (.aload_n 0, 1) := by decide +kernel
theorem dX6_isAllowed_42 : decode cX6_isAllowed 42 = .ok (.aload_n 0, 1) := by decide +kernel
theorem dX6_isAllowed_43 : decode cX6_isAllowed 43 = .ok (.getfield 139, 3) := by decide +kernel
theorem dX6_isAllowed_46 : decode cX6_isAllowed 46 = .ok (.iload 4, 2) := by decide +kernel
theorem dX6_isAllowed_48 : decode cX6_isAllowed 48 = .ok (.iadd, 1) := by decide +kernel
theorem dX6_isAllowed_49 : decode cX6_isAllowed 49 = .ok (.invokevirtual 165, 3) := by decide +kernel
theorem dX6_isAllowed_52 : decode cX6_isAllowed 52 = .ok (.istore 6, 2) := by decide +kernel
theorem dX6_isAllowed_54 : decode cX6_isAllowed 54 = .ok (.aload_n 0, 1) := by decide +kernel
theorem dX6_isAllowed_55 : decode cX6_isAllowed 55 = .ok (.getfield 139, 3) := by decide +kernel
theorem dX6_isAllowed_58 : decode cX6_isAllowed 58 = .ok (.iload 4, 2) := by decide +kernel
theorem dX6_isAllowed_60 : decode cX6_isAllowed 60 = .ok (.iadd, 1) := by decide +kernel
theorem dX6_isAllowed_61 : decode cX6_isAllowed 61 = .ok (.bipush 48, 2) := by decide +kernel
theorem dX6_isAllowed_63 : decode cX6_isAllowed 63 = .ok (.irem, 1) := by decide +kernel
theorem dX6_isAllowed_64 : decode cX6_isAllowed 64 = .ok (.istore 7, 2) := by decide +kernel
theorem dX6_isAllowed_66 : decode cX6_isAllowed 66 = .ok (.iload 6, 2) := by decide +kernel
theorem dX6_isAllowed_68 : decode cX6_isAllowed 68 = .ok (.iconst (-1), 1) := by decide +kernel
theorem dX6_isAllowed_69 : decode cX6_isAllowed 69 = .ok (.if_icmp .eq 15, 3) := by decide +kernel
theorem dX6_isAllowed_72 : decode cX6_isAllowed 72 = .ok (.aload_n 0, 1) := by decide +kernel
theorem dX6_isAllowed_73 : decode cX6_isAllowed 73 = .ok (.getfield 47, 3) := by decide +kernel
theorem dX6_isAllowed_76 : decode cX6_isAllowed 76 = .ok (.iload 6, 2) := by decide +kernel
theorem dX6_isAllowed_78 : decode cX6_isAllowed 78 = .ok (.baload, 1) := by decide +kernel
theorem dX6_isAllowed_79 : decode cX6_isAllowed 79 = .ok (.iload 5, 2) := by decide +kernel
theorem dX6_isAllowed_81 : decode cX6_isAllowed 81 = .ok (.if_icmp .ne 7, 3) := by decide +kernel
theorem dX6_isAllowed_84 : decode cX6_isAllowed 84 = .ok (.iconst 1, 1) := by decide +kernel
theorem dX6_isAllowed_85 : decode cX6_isAllowed 85 = .ok (.goto 4, 3) := by decide +kernel
theorem dX6_isAllowed_88 : decode cX6_isAllowed 88 = .ok (.iconst 0, 1) := by decide +kernel
theorem dX6_isAllowed_89 : decode cX6_isAllowed 89 = .ok (.istore_n 3, 1) := by decide +kernel
theorem dX6_isAllowed_90 : decode cX6_isAllowed 90 = .ok (.iload_n 3, 1) := by decide +kernel
theorem dX6_isAllowed_91 : decode cX6_isAllowed 91 = .ok (.ifCond .eq 18, 3) := by decide +kernel
theorem dX6_isAllowed_94 : decode cX6_isAllowed 94 = .ok (.aload_n 0, 1) := by decide +kernel
theorem dX6_isAllowed_95 : decode cX6_isAllowed 95 = .ok (.iload 7, 2) := by decide +kernel
theorem dX6_isAllowed_97 : decode cX6_isAllowed 97 = .ok (.iload 5, 2) := by decide +kernel
theorem dX6_isAllowed_99 : decode cX6_isAllowed 99 = .ok (.invokevirtual 142, 3) := by decide +kernel
theorem dX6_isAllowed_102 : decode cX6_isAllowed 102 = .ok (.ifCond .eq 7, 3) := by decide +kernel
theorem dX6_isAllowed_105 : decode cX6_isAllowed 105 = .ok (.iconst 1, 1) := by decide +kernel
theorem dX6_isAllowed_106 : decode cX6_isAllowed 106 = .ok (.goto 4, 3) := by decide +kernel
theorem dX6_isAllowed_109 : decode cX6_isAllowed 109 = .ok (.iconst 0, 1) := by decide +kernel
theorem dX6_isAllowed_110 : decode cX6_isAllowed 110 = .ok (.istore_n 3, 1) := by decide +kernel
theorem dX6_isAllowed_111 : decode cX6_isAllowed 111 = .ok (.aload_n 0, 1) := by decide +kernel
theorem dX6_isAllowed_112 : decode cX6_isAllowed 112 = .ok (.dup, 1) := by decide +kernel
theorem dX6_isAllowed_113 : decode cX6_isAllowed 113 = .ok (.getfield 188, 3) := by decide +kernel
theorem dX6_isAllowed_116 : decode cX6_isAllowed 116 = .ok (.aload_n 0, 1) := by decide +kernel
theorem dX6_isAllowed_117 : decode cX6_isAllowed 117 = .ok (.getfield 120, 3) := by decide +kernel
theorem dX6_isAllowed_120 : decode cX6_isAllowed 120 = .ok (.aload_n 0, 1) := by decide +kernel
theorem dX6_isAllowed_121 : decode cX6_isAllowed 121 = .ok (.getfield 31, 3) := by decide +kernel
theorem dX6_isAllowed_124 : decode cX6_isAllowed 124 = .ok (.iload 7, 2) := by decide +kernel
theorem dX6_isAllowed_126 : decode cX6_isAllowed 126 = .ok (.iaload, 1) := by decide +kernel
theorem dX6_isAllowed_127 : decode cX6_isAllowed 127 = .ok (.imul, 1) := by decide +kernel
theorem dX6_isAllowed_128 : decode cX6_isAllowed 128 = .ok (.iadd, 1) := by decide +kernel
theorem dX6_isAllowed_129 : decode cX6_isAllowed 129 = .ok (.putfield 188, 3) := by decide +kernel
theorem dX6_isAllowed_132 : decode cX6_isAllowed 132 = .ok (.iinc 4 1, 3) := by decide +kernel
theorem dX6_isAllowed_135 : decode cX6_isAllowed 135 = .ok (.goto (-125), 3) := by decide +kernel
theorem dX6_isAllowed_138 : decode cX6_isAllowed 138 = .ok (.iload_n 3, 1) := by decide +kernel
theorem dX6_isAllowed_139 : decode cX6_isAllowed 139 = .ok (.ireturn, 1) := by decide +kernel
theorem dX6_laysBack_0 : decode cX6_laysBack 0 = .ok (.iconst 0, 1) := by decide +kernel
theorem dX6_laysBack_1 : decode cX6_laysBack 1 = .ok (.istore_n 3, 1) := by decide +kernel
theorem dX6_laysBack_2 : decode cX6_laysBack 2 = .ok (.iload_n 3, 1) := by decide +kernel
theorem dX6_laysBack_3 : decode cX6_laysBack 3 = .ok (.aload_n 1, 1) := by decide +kernel
theorem dX6_laysBack_4 : decode cX6_laysBack 4 = .ok (.arraylength, 1) := by decide +kernel
theorem dX6_laysBack_5 : decode cX6_laysBack 5 = .ok (.if_icmp .ge 15, 3) := by decide +kernel
theorem dX6_laysBack_8 : decode cX6_laysBack 8 = .ok (.aload_n 2, 1) := by decide +kernel
theorem dX6_laysBack_9 : decode cX6_laysBack 9 = .ok (.iload_n 3, 1) := by decide +kernel
theorem dX6_laysBack_10 : decode cX6_laysBack 10 = .ok (.aload_n 1, 1) := by decide +kernel
theorem dX6_laysBack_11 : decode cX6_laysBack 11 = .ok (.iload_n 3, 1) := by decide +kernel
theorem dX6_laysBack_12 : decode cX6_laysBack 12 = .ok (.iaload, 1) := by decide +kernel
theorem dX6_laysBack_13 : decode cX6_laysBack 13 = .ok (.iastore, 1) := by decide +kernel
theorem dX6_laysBack_14 : decode cX6_laysBack 14 = .ok (.iinc 3 1, 3) := by decide +kernel
theorem dX6_laysBack_17 : decode cX6_laysBack 17 = .ok (.goto (-15), 3) := by decide +kernel
theorem dX6_laysBack_20 : decode cX6_laysBack 20 = .ok (.return_, 1) := by decide +kernel
theorem dX6_looks_0 : decode cX6_looks 0 = .ok (.aload_n 0, 1) := by decide +kernel
theorem dX6_looks_1 : decode cX6_looks 1 = .ok (.iconst 0, 1) := by decide +kernel
theorem dX6_looks_2 : decode cX6_looks 2 = .ok (.putfield 180, 3) := by decide +kernel
theorem dX6_looks_5 : decode cX6_looks 5 = .ok (.aload_n 0, 1) := by decide +kernel
theorem dX6_looks_6 : decode cX6_looks 6 = .ok (.aload_n 0, 1) := by decide +kernel
theorem dX6_looks_7 : decode cX6_looks 7 = .ok (.getfield 9, 3) := by decide +kernel
theorem dX6_looks_10 : decode cX6_looks 10 = .ok (.aload_n 0, 1) := by decide +kernel
theorem dX6_looks_11 : decode cX6_looks 11 = .ok (.getfield 13, 3) := by decide +kernel
theorem dX6_looks_14 : decode cX6_looks 14 = .ok (.invokevirtual 191, 3) := by decide +kernel
theorem dX6_looks_17 : decode cX6_looks 17 = .ok (.iconst 0, 1) := by decide +kernel
theorem dX6_looks_18 : decode cX6_looks 18 = .ok (.istore_n 2, 1) := by decide +kernel
theorem dX6_looks_19 : decode cX6_looks 19 = .ok (.iload_n 2, 1) := by decide +kernel
theorem dX6_looks_20 : decode cX6_looks 20 = .ok (.iconst 1, 1) := by decide +kernel
theorem dX6_looks_21 : decode cX6_looks 21 = .ok (.iload_n 1, 1) := by decide +kernel
theorem dX6_looks_22 : decode cX6_looks 22 = .ok (.ishl, 1) := by decide +kernel
theorem dX6_looks_23 : decode cX6_looks 23 = .ok (.if_icmp .ge 81, 3) := by decide +kernel
theorem dX6_looks_26 : decode cX6_looks 26 = .ok (.aload_n 0, 1) := by decide +kernel
theorem dX6_looks_27 : decode cX6_looks 27 = .ok (.iload_n 2, 1) := by decide +kernel
theorem dX6_looks_28 : decode cX6_looks 28 = .ok (.iload_n 1, 1) := by decide +kernel
theorem dX6_looks_29 : decode cX6_looks 29 = .ok (.invokevirtual 195, 3) := by decide +kernel
theorem dX6_looks_32 : decode cX6_looks 32 = .ok (.istore_n 3, 1) := by decide +kernel
theorem dX6_looks_33 : decode cX6_looks 33 = .ok (.aload_n 0, 1) := by decide +kernel
theorem dX6_looks_34 : decode cX6_looks 34 = .ok (.aload_n 0, 1) := by decide +kernel
theorem dX6_looks_35 : decode cX6_looks 35 = .ok (.getfield 13, 3) := by decide +kernel
theorem dX6_looks_38 : decode cX6_looks 38 = .ok (.aload_n 0, 1) := by decide +kernel
theorem dX6_looks_39 : decode cX6_looks 39 = .ok (.getfield 9, 3) := by decide +kernel
theorem dX6_looks_42 : decode cX6_looks 42 = .ok (.invokevirtual 191, 3) := by decide +kernel
theorem dX6_looks_45 : decode cX6_looks 45 = .ok (.iload_n 3, 1) := by decide +kernel
theorem dX6_looks_46 : decode cX6_looks 46 = .ok (.ifCond .eq 34, 3) := by decide +kernel
theorem dX6_looks_49 : decode cX6_looks 49 = .ok (.aload_n 0, 1) := by decide +kernel
theorem dX6_looks_50 : decode cX6_looks 50 = .ok (.getfield 180, 3) := by decide +kernel
theorem dX6_looks_53 : decode cX6_looks 53 = .ok (.ifCond .eq 14, 3) := by decide +kernel
theorem dX6_looks_56 : decode cX6_looks 56 = .ok (.aload_n 0, 1) := by decide +kernel
theorem dX6_looks_57 : decode cX6_looks 57 = .ok (.getfield 188, 3) := by decide +kernel
theorem dX6_looks_60 : decode cX6_looks 60 = .ok (.aload_n 0, 1) := by decide +kernel
theorem dX6_looks_61 : decode cX6_looks 61 = .ok (.getfield 199, 3) := by decide +kernel
theorem dX6_looks_64 : decode cX6_looks 64 = .ok (.if_icmp .ge 16, 3) := by decide +kernel
theorem dX6_looks_67 : decode cX6_looks 67 = .ok (.aload_n 0, 1) := by decide +kernel
theorem dX6_looks_68 : decode cX6_looks 68 = .ok (.iload_n 2, 1) := by decide +kernel
theorem dX6_looks_69 : decode cX6_looks 69 = .ok (.putfield 183, 3) := by decide +kernel
theorem dX6_looks_72 : decode cX6_looks 72 = .ok (.aload_n 0, 1) := by decide +kernel
theorem dX6_looks_73 : decode cX6_looks 73 = .ok (.aload_n 0, 1) := by decide +kernel
theorem dX6_looks_74 : decode cX6_looks 74 = .ok (.getfield 188, 3) := by decide +kernel
theorem dX6_looks_77 : decode cX6_looks 77 = .ok (.putfield 199, 3) := by decide +kernel
theorem dX6_looks_80 : decode cX6_looks 80 = .ok (.aload_n 0, 1) := by decide +kernel
theorem dX6_looks_81 : decode cX6_looks 81 = .ok (.dup, 1) := by decide +kernel
theorem dX6_looks_82 : decode cX6_looks 82 = .ok (.getfield 180, 3) := by decide +kernel
theorem dX6_looks_85 : decode cX6_looks 85 = .ok (.iload_n 3, 1) := by decide +kernel
theorem dX6_looks_86 : decode cX6_looks 86 = .ok (.ifCond .eq 7, 3) := by decide +kernel
theorem dX6_looks_89 : decode cX6_looks 89 = .ok (.iconst 1, 1) := by decide +kernel
theorem dX6_looks_90 : decode cX6_looks 90 = .ok (.goto 4, 3) := by decide +kernel
theorem dX6_looks_93 : decode cX6_looks 93 = .ok (.iconst 0, 1) := by decide +kernel
theorem dX6_looks_94 : decode cX6_looks 94 = .ok (.iadd, 1) := by decide +kernel
theorem dX6_looks_95 : decode cX6_looks 95 = .ok (.putfield 180, 3) := by decide +kernel
theorem dX6_looks_98 : decode cX6_looks 98 = .ok (.iinc 2 1, 3) := by decide +kernel
theorem dX6_looks_101 : decode cX6_looks 101 = .ok (.goto (-82), 3) := by decide +kernel
theorem dX6_looks_104 : decode cX6_looks 104 = .ok (.return_, 1) := by decide +kernel
theorem dX6_bestCost_0 : decode cX6_bestCost 0 = .ok (.aload_n 0, 1) := by decide +kernel
theorem dX6_bestCost_1 : decode cX6_bestCost 1 = .ok (.iload_n 1, 1) := by decide +kernel
theorem dX6_bestCost_2 : decode cX6_bestCost 2 = .ok (.i2l, 1) := by decide +kernel
theorem dX6_bestCost_3 : decode cX6_bestCost 3 = .ok (.lconst 1, 1) := by decide +kernel
theorem dX6_bestCost_4 : decode cX6_bestCost 4 = .ok (.ldc2_w 186, 3) := by decide +kernel
theorem dX6_bestCost_7 : decode cX6_bestCost 7 = .ok (.invokestatic 60, 3) := by decide +kernel
theorem dX6_bestCost_10 : decode cX6_bestCost 10 = .ok (.ifCond .eq 7, 3) := by decide +kernel
theorem dX6_bestCost_13 : decode cX6_bestCost 13 = .ok (.iconst 0, 1) := by decide +kernel
theorem dX6_bestCost_14 : decode cX6_bestCost 14 = .ok (.goto 4, 3) := by decide +kernel
theorem dX6_bestCost_17 : decode cX6_bestCost 17 = .ok (.iconst 1, 1) := by decide +kernel
theorem dX6_bestCost_18 : decode cX6_bestCost 18 = .ok (.putfield 54, 3) := by decide +kernel
theorem dX6_bestCost_21 : decode cX6_bestCost 21 = .ok (.aload_n 0, 1) := by decide +kernel
theorem dX6_bestCost_22 : decode cX6_bestCost 22 = .ok (.getfield 54, 3) := by decide +kernel
theorem dX6_bestCost_25 : decode cX6_bestCost 25 = .ok (.ifCond .le 5, 3) := by decide +kernel
theorem dX6_bestCost_28 : decode cX6_bestCost 28 = .ok (.iconst (-1), 1) := by decide +kernel
theorem dX6_bestCost_29 : decode cX6_bestCost 29 = .ok (.ireturn, 1) := by decide +kernel
theorem dX6_bestCost_30 : decode cX6_bestCost 30 = .ok (.aload_n 0, 1) := by decide +kernel
theorem dX6_bestCost_31 : decode cX6_bestCost 31 = .ok (.iload_n 1, 1) := by decide +kernel
theorem dX6_bestCost_32 : decode cX6_bestCost 32 = .ok (.invokevirtual 177, 3) := by decide +kernel
theorem dX6_bestCost_35 : decode cX6_bestCost 35 = .ok (.aload_n 0, 1) := by decide +kernel
theorem dX6_bestCost_36 : decode cX6_bestCost 36 = .ok (.aload_n 0, 1) := by decide +kernel
theorem dX6_bestCost_37 : decode cX6_bestCost 37 = .ok (.getfield 180, 3) := by decide +kernel
theorem dX6_bestCost_40 : decode cX6_bestCost 40 = .ok (.ifCond .ne 7, 3) := by decide +kernel
theorem dX6_bestCost_43 : decode cX6_bestCost 43 = .ok (.iconst 2, 1) := by decide +kernel
theorem dX6_bestCost_44 : decode cX6_bestCost 44 = .ok (.goto 4, 3) := by decide +kernel
theorem dX6_bestCost_47 : decode cX6_bestCost 47 = .ok (.iconst 0, 1) := by decide +kernel
theorem dX6_bestCost_48 : decode cX6_bestCost 48 = .ok (.putfield 54, 3) := by decide +kernel
theorem dX6_bestCost_51 : decode cX6_bestCost 51 = .ok (.aload_n 0, 1) := by decide +kernel
theorem dX6_bestCost_52 : decode cX6_bestCost 52 = .ok (.getfield 54, 3) := by decide +kernel
theorem dX6_bestCost_55 : decode cX6_bestCost 55 = .ok (.ifCond .ne 10, 3) := by decide +kernel
theorem dX6_bestCost_58 : decode cX6_bestCost 58 = .ok (.aload_n 0, 1) := by decide +kernel
theorem dX6_bestCost_59 : decode cX6_bestCost 59 = .ok (.getfield 199, 3) := by decide +kernel
theorem dX6_bestCost_62 : decode cX6_bestCost 62 = .ok (.goto 4, 3) := by decide +kernel
theorem dX6_bestCost_65 : decode cX6_bestCost 65 = .ok (.iconst (-1), 1) := by decide +kernel
theorem dX6_bestCost_66 : decode cX6_bestCost 66 = .ok (.ireturn, 1) := by decide +kernel
theorem dX6_bestCostByTrying_0 : decode cX6_bestCostByTrying 0 = .ok (.aload_n 0, 1) := by decide +kernel
theorem dX6_bestCostByTrying_1 : decode cX6_bestCostByTrying 1 = .ok (.iload_n 1, 1) := by decide +kernel
theorem dX6_bestCostByTrying_2 : decode cX6_bestCostByTrying 2 = .ok (.invokevirtual 202, 3) := by decide +kernel
theorem dX6_bestCostByTrying_5 : decode cX6_bestCostByTrying 5 = .ok (.ireturn, 1) := by decide +kernel
theorem dX6_isOnInBest_0 : decode cX6_isOnInBest 0 = .ok (.aload_n 0, 1) := by decide +kernel
theorem dX6_isOnInBest_1 : decode cX6_isOnInBest 1 = .ok (.iload_n 1, 1) := by decide +kernel
theorem dX6_isOnInBest_2 : decode cX6_isOnInBest 2 = .ok (.i2l, 1) := by decide +kernel
theorem dX6_isOnInBest_3 : decode cX6_isOnInBest 3 = .ok (.lconst 1, 1) := by decide +kernel
theorem dX6_isOnInBest_4 : decode cX6_isOnInBest 4 = .ok (.ldc2_w 186, 3) := by decide +kernel
theorem dX6_isOnInBest_7 : decode cX6_isOnInBest 7 = .ok (.invokestatic 60, 3) := by decide +kernel
theorem dX6_isOnInBest_10 : decode cX6_isOnInBest 10 = .ok (.ifCond .ne 7, 3) := by decide +kernel
theorem dX6_isOnInBest_13 : decode cX6_isOnInBest 13 = .ok (.iconst 1, 1) := by decide +kernel
theorem dX6_isOnInBest_14 : decode cX6_isOnInBest 14 = .ok (.goto 21, 3) := by decide +kernel
theorem dX6_isOnInBest_17 : decode cX6_isOnInBest 17 = .ok (.iload_n 2, 1) := by decide +kernel
theorem dX6_isOnInBest_18 : decode cX6_isOnInBest 18 = .ok (.i2l, 1) := by decide +kernel
theorem dX6_isOnInBest_19 : decode cX6_isOnInBest 19 = .ok (.lconst 0, 1) := by decide +kernel
theorem dX6_isOnInBest_20 : decode cX6_isOnInBest 20 = .ok (.iload_n 1, 1) := by decide +kernel
theorem dX6_isOnInBest_21 : decode cX6_isOnInBest 21 = .ok (.iconst 1, 1) := by decide +kernel
theorem dX6_isOnInBest_22 : decode cX6_isOnInBest 22 = .ok (.isub, 1) := by decide +kernel
theorem dX6_isOnInBest_23 : decode cX6_isOnInBest 23 = .ok (.i2l, 1) := by decide +kernel
theorem dX6_isOnInBest_24 : decode cX6_isOnInBest 24 = .ok (.invokestatic 60, 3) := by decide +kernel
theorem dX6_isOnInBest_27 : decode cX6_isOnInBest 27 = .ok (.ifCond .ne 7, 3) := by decide +kernel
theorem dX6_isOnInBest_30 : decode cX6_isOnInBest 30 = .ok (.iconst 2, 1) := by decide +kernel
theorem dX6_isOnInBest_31 : decode cX6_isOnInBest 31 = .ok (.goto 4, 3) := by decide +kernel
theorem dX6_isOnInBest_34 : decode cX6_isOnInBest 34 = .ok (.iconst 0, 1) := by decide +kernel
theorem dX6_isOnInBest_35 : decode cX6_isOnInBest 35 = .ok (.putfield 54, 3) := by decide +kernel
theorem dX6_isOnInBest_38 : decode cX6_isOnInBest 38 = .ok (.aload_n 0, 1) := by decide +kernel
theorem dX6_isOnInBest_39 : decode cX6_isOnInBest 39 = .ok (.getfield 54, 3) := by decide +kernel
theorem dX6_isOnInBest_42 : decode cX6_isOnInBest 42 = .ok (.ifCond .le 5, 3) := by decide +kernel
theorem dX6_isOnInBest_45 : decode cX6_isOnInBest 45 = .ok (.iconst 0, 1) := by decide +kernel
theorem dX6_isOnInBest_46 : decode cX6_isOnInBest 46 = .ok (.ireturn, 1) := by decide +kernel
theorem dX6_isOnInBest_47 : decode cX6_isOnInBest 47 = .ok (.aload_n 0, 1) := by decide +kernel
theorem dX6_isOnInBest_48 : decode cX6_isOnInBest 48 = .ok (.iload_n 1, 1) := by decide +kernel
theorem dX6_isOnInBest_49 : decode cX6_isOnInBest 49 = .ok (.invokevirtual 177, 3) := by decide +kernel
theorem dX6_isOnInBest_52 : decode cX6_isOnInBest 52 = .ok (.aload_n 0, 1) := by decide +kernel
end
section
theorem dX6_isOnInBest_53 : decode cX6_isOnInBest 53 = .ok (.aload_n 0, 1) := by decide +kernel
theorem dX6_isOnInBest_54 : decode cX6_isOnInBest 54 = .ok (.getfield 180, 3) := by decide +kernel
theorem dX6_isOnInBest_57 : decode cX6_isOnInBest 57 = .ok (.ifCond .ne 7, 3) := by decide +kernel
theorem dX6_isOnInBest_60 : decode cX6_isOnInBest 60 = .ok (.iconst 3, 1) := by decide +kernel
theorem dX6_isOnInBest_61 : decode cX6_isOnInBest 61 = .ok (.goto 4, 3) := by decide +kernel
theorem dX6_isOnInBest_64 : decode cX6_isOnInBest 64 = .ok (.iconst 0, 1) := by decide +kernel
theorem dX6_isOnInBest_65 : decode cX6_isOnInBest 65 = .ok (.putfield 54, 3) := by decide +kernel
theorem dX6_isOnInBest_68 : decode cX6_isOnInBest 68 = .ok (.aload_n 0, 1) := by decide +kernel
theorem dX6_isOnInBest_69 : decode cX6_isOnInBest 69 = .ok (.getfield 54, 3) := by decide +kernel
theorem dX6_isOnInBest_72 : decode cX6_isOnInBest 72 = .ok (.ifCond .ne 23, 3) := by decide +kernel
theorem dX6_isOnInBest_75 : decode cX6_isOnInBest 75 = .ok (.aload_n 0, 1) := by decide +kernel
theorem dX6_isOnInBest_76 : decode cX6_isOnInBest 76 = .ok (.getfield 183, 3) := by decide +kernel
theorem dX6_isOnInBest_79 : decode cX6_isOnInBest 79 = .ok (.iload_n 1, 1) := by decide +kernel
theorem dX6_isOnInBest_80 : decode cX6_isOnInBest 80 = .ok (.iconst 1, 1) := by decide +kernel
theorem dX6_isOnInBest_81 : decode cX6_isOnInBest 81 = .ok (.isub, 1) := by decide +kernel
theorem dX6_isOnInBest_82 : decode cX6_isOnInBest 82 = .ok (.iload_n 2, 1) := by decide +kernel
theorem dX6_isOnInBest_83 : decode cX6_isOnInBest 83 = .ok (.isub, 1) := by decide +kernel
theorem dX6_isOnInBest_84 : decode cX6_isOnInBest 84 = .ok (.ishr, 1) := by decide +kernel
theorem dX6_isOnInBest_85 : decode cX6_isOnInBest 85 = .ok (.iconst 1, 1) := by decide +kernel
theorem dX6_isOnInBest_86 : decode cX6_isOnInBest 86 = .ok (.iand, 1) := by decide +kernel
theorem dX6_isOnInBest_87 : decode cX6_isOnInBest 87 = .ok (.iconst 1, 1) := by decide +kernel
theorem dX6_isOnInBest_88 : decode cX6_isOnInBest 88 = .ok (.if_icmp .ne 7, 3) := by decide +kernel
theorem dX6_isOnInBest_91 : decode cX6_isOnInBest 91 = .ok (.iconst 1, 1) := by decide +kernel
theorem dX6_isOnInBest_92 : decode cX6_isOnInBest 92 = .ok (.goto 4, 3) := by decide +kernel
theorem dX6_isOnInBest_95 : decode cX6_isOnInBest 95 = .ok (.iconst 0, 1) := by decide +kernel
theorem dX6_isOnInBest_96 : decode cX6_isOnInBest 96 = .ok (.ireturn, 1) := by decide +kernel
theorem dX6_allowedSchedules_0 : decode cX6_allowedSchedules 0 = .ok (.aload_n 0, 1) := by decide +kernel
theorem dX6_allowedSchedules_1 : decode cX6_allowedSchedules 1 = .ok (.iload_n 1, 1) := by decide +kernel
theorem dX6_allowedSchedules_2 : decode cX6_allowedSchedules 2 = .ok (.i2l, 1) := by decide +kernel
theorem dX6_allowedSchedules_3 : decode cX6_allowedSchedules 3 = .ok (.lconst 1, 1) := by decide +kernel
theorem dX6_allowedSchedules_4 : decode cX6_allowedSchedules 4 = .ok (.ldc2_w 186, 3) := by decide +kernel
theorem dX6_allowedSchedules_7 : decode cX6_allowedSchedules 7 = .ok (.invokestatic 60, 3) := by decide +kernel
theorem dX6_allowedSchedules_10 : decode cX6_allowedSchedules 10 = .ok (.ifCond .eq 7, 3) := by decide +kernel
theorem dX6_allowedSchedules_13 : decode cX6_allowedSchedules 13 = .ok (.iconst 0, 1) := by decide +kernel
theorem dX6_allowedSchedules_14 : decode cX6_allowedSchedules 14 = .ok (.goto 4, 3) := by decide +kernel
theorem dX6_allowedSchedules_17 : decode cX6_allowedSchedules 17 = .ok (.iconst 1, 1) := by decide +kernel
theorem dX6_allowedSchedules_18 : decode cX6_allowedSchedules 18 = .ok (.putfield 54, 3) := by decide +kernel
theorem dX6_allowedSchedules_21 : decode cX6_allowedSchedules 21 = .ok (.aload_n 0, 1) := by decide +kernel
theorem dX6_allowedSchedules_22 : decode cX6_allowedSchedules 22 = .ok (.getfield 54, 3) := by decide +kernel
theorem dX6_allowedSchedules_25 : decode cX6_allowedSchedules 25 = .ok (.ifCond .le 5, 3) := by decide +kernel
theorem dX6_allowedSchedules_28 : decode cX6_allowedSchedules 28 = .ok (.iconst (-1), 1) := by decide +kernel
theorem dX6_allowedSchedules_29 : decode cX6_allowedSchedules 29 = .ok (.ireturn, 1) := by decide +kernel
theorem dX6_allowedSchedules_30 : decode cX6_allowedSchedules 30 = .ok (.aload_n 0, 1) := by decide +kernel
theorem dX6_allowedSchedules_31 : decode cX6_allowedSchedules 31 = .ok (.iload_n 1, 1) := by decide +kernel
theorem dX6_allowedSchedules_32 : decode cX6_allowedSchedules 32 = .ok (.invokevirtual 177, 3) := by decide +kernel
theorem dX6_allowedSchedules_35 : decode cX6_allowedSchedules 35 = .ok (.aload_n 0, 1) := by decide +kernel
theorem dX6_allowedSchedules_36 : decode cX6_allowedSchedules 36 = .ok (.getfield 180, 3) := by decide +kernel
theorem dX6_allowedSchedules_39 : decode cX6_allowedSchedules 39 = .ok (.ireturn, 1) := by decide +kernel
theorem dX6_feed_0 : decode cX6_feed 0 = .ok (.aload_n 0, 1) := by decide +kernel
theorem dX6_feed_1 : decode cX6_feed 1 = .ok (.iconst 0, 1) := by decide +kernel
theorem dX6_feed_2 : decode cX6_feed 2 = .ok (.putfield 54, 3) := by decide +kernel
theorem dX6_feed_5 : decode cX6_feed 5 = .ok (.aload_n 0, 1) := by decide +kernel
theorem dX6_feed_6 : decode cX6_feed 6 = .ok (.getfield 150, 3) := by decide +kernel
theorem dX6_feed_9 : decode cX6_feed 9 = .ok (.lreturn, 1) := by decide +kernel
theorem dX6_product_0 : decode cX6_product 0 = .ok (.aload_n 0, 1) := by decide +kernel
theorem dX6_product_1 : decode cX6_product 1 = .ok (.iconst 0, 1) := by decide +kernel
theorem dX6_product_2 : decode cX6_product 2 = .ok (.putfield 54, 3) := by decide +kernel
theorem dX6_product_5 : decode cX6_product 5 = .ok (.aload_n 0, 1) := by decide +kernel
theorem dX6_product_6 : decode cX6_product 6 = .ok (.getfield 146, 3) := by decide +kernel
theorem dX6_product_9 : decode cX6_product 9 = .ok (.lreturn, 1) := by decide +kernel
theorem dX6_brine_0 : decode cX6_brine 0 = .ok (.aload_n 0, 1) := by decide +kernel
theorem dX6_brine_1 : decode cX6_brine 1 = .ok (.iconst 0, 1) := by decide +kernel
theorem dX6_brine_2 : decode cX6_brine 2 = .ok (.putfield 54, 3) := by decide +kernel
theorem dX6_brine_5 : decode cX6_brine 5 = .ok (.aload_n 0, 1) := by decide +kernel
theorem dX6_brine_6 : decode cX6_brine 6 = .ok (.getfield 150, 3) := by decide +kernel
theorem dX6_brine_9 : decode cX6_brine 9 = .ok (.aload_n 0, 1) := by decide +kernel
theorem dX6_brine_10 : decode cX6_brine 10 = .ok (.getfield 146, 3) := by decide +kernel
theorem dX6_brine_13 : decode cX6_brine 13 = .ok (.lsub, 1) := by decide +kernel
theorem dX6_brine_14 : decode cX6_brine 14 = .ok (.lreturn, 1) := by decide +kernel
theorem dX6_spilled_0 : decode cX6_spilled 0 = .ok (.aload_n 0, 1) := by decide +kernel
theorem dX6_spilled_1 : decode cX6_spilled 1 = .ok (.iconst 0, 1) := by decide +kernel
theorem dX6_spilled_2 : decode cX6_spilled 2 = .ok (.putfield 54, 3) := by decide +kernel
theorem dX6_spilled_5 : decode cX6_spilled 5 = .ok (.aload_n 0, 1) := by decide +kernel
theorem dX6_spilled_6 : decode cX6_spilled 6 = .ok (.getfield 153, 3) := by decide +kernel
theorem dX6_spilled_9 : decode cX6_spilled 9 = .ok (.lreturn, 1) := by decide +kernel
theorem dX6_spilledByBalance_0 : decode cX6_spilledByBalance 0 = .ok (.aload_n 0, 1) := by decide +kernel
theorem dX6_spilledByBalance_1 : decode cX6_spilledByBalance 1 = .ok (.invokevirtual 204, 3) := by decide +kernel
theorem dX6_spilledByBalance_4 : decode cX6_spilledByBalance 4 = .ok (.lreturn, 1) := by decide +kernel
theorem dX6_cost_0 : decode cX6_cost 0 = .ok (.aload_n 0, 1) := by decide +kernel
theorem dX6_cost_1 : decode cX6_cost 1 = .ok (.iconst 0, 1) := by decide +kernel
theorem dX6_cost_2 : decode cX6_cost 2 = .ok (.putfield 54, 3) := by decide +kernel
theorem dX6_cost_5 : decode cX6_cost 5 = .ok (.aload_n 0, 1) := by decide +kernel
theorem dX6_cost_6 : decode cX6_cost 6 = .ok (.getfield 159, 3) := by decide +kernel
theorem dX6_cost_9 : decode cX6_cost 9 = .ok (.lreturn, 1) := by decide +kernel
theorem dX6_isBalanced_0 : decode cX6_isBalanced 0 = .ok (.aload_n 0, 1) := by decide +kernel
theorem dX6_isBalanced_1 : decode cX6_isBalanced 1 = .ok (.iconst 0, 1) := by decide +kernel
theorem dX6_isBalanced_2 : decode cX6_isBalanced 2 = .ok (.putfield 54, 3) := by decide +kernel
theorem dX6_isBalanced_5 : decode cX6_isBalanced 5 = .ok (.iconst 1, 1) := by decide +kernel
theorem dX6_isBalanced_6 : decode cX6_isBalanced 6 = .ok (.ireturn, 1) := by decide +kernel
theorem dX6_servedShare_0 : decode cX6_servedShare 0 = .ok (.aload_n 0, 1) := by decide +kernel
theorem dX6_servedShare_1 : decode cX6_servedShare 1 = .ok (.aload_n 0, 1) := by decide +kernel
theorem dX6_servedShare_2 : decode cX6_servedShare 2 = .ok (.getfield 162, 3) := by decide +kernel
theorem dX6_servedShare_5 : decode cX6_servedShare 5 = .ok (.lconst 0, 1) := by decide +kernel
theorem dX6_servedShare_6 : decode cX6_servedShare 6 = .ok (.lcmp, 1) := by decide +kernel
theorem dX6_servedShare_7 : decode cX6_servedShare 7 = .ok (.ifCond .ne 7, 3) := by decide +kernel
theorem dX6_servedShare_10 : decode cX6_servedShare 10 = .ok (.iconst 1, 1) := by decide +kernel
theorem dX6_servedShare_11 : decode cX6_servedShare 11 = .ok (.goto 4, 3) := by decide +kernel
theorem dX6_servedShare_14 : decode cX6_servedShare 14 = .ok (.iconst 0, 1) := by decide +kernel
theorem dX6_servedShare_15 : decode cX6_servedShare 15 = .ok (.putfield 54, 3) := by decide +kernel
theorem dX6_servedShare_18 : decode cX6_servedShare 18 = .ok (.aload_n 0, 1) := by decide +kernel
theorem dX6_servedShare_19 : decode cX6_servedShare 19 = .ok (.getfield 54, 3) := by decide +kernel
theorem dX6_servedShare_22 : decode cX6_servedShare 22 = .ok (.ifCond .ne 17, 3) := by decide +kernel
theorem dX6_servedShare_25 : decode cX6_servedShare 25 = .ok (.aload_n 0, 1) := by decide +kernel
theorem dX6_servedShare_26 : decode cX6_servedShare 26 = .ok (.getfield 156, 3) := by decide +kernel
theorem dX6_servedShare_29 : decode cX6_servedShare 29 = .ok (.l2f, 1) := by decide +kernel
theorem dX6_servedShare_30 : decode cX6_servedShare 30 = .ok (.aload_n 0, 1) := by decide +kernel
theorem dX6_servedShare_31 : decode cX6_servedShare 31 = .ok (.getfield 162, 3) := by decide +kernel
theorem dX6_servedShare_34 : decode cX6_servedShare 34 = .ok (.l2f, 1) := by decide +kernel
theorem dX6_servedShare_35 : decode cX6_servedShare 35 = .ok (.fdiv, 1) := by decide +kernel
theorem dX6_servedShare_36 : decode cX6_servedShare 36 = .ok (.goto 4, 3) := by decide +kernel
theorem dX6_servedShare_39 : decode cX6_servedShare 39 = .ok (.fconst 0, 1) := by decide +kernel
theorem dX6_servedShare_40 : decode cX6_servedShare 40 = .ok (.freturn, 1) := by decide +kernel
theorem dX6_meanCost_0 : decode cX6_meanCost 0 = .ok (.aload_n 0, 1) := by decide +kernel
theorem dX6_meanCost_1 : decode cX6_meanCost 1 = .ok (.aload_n 0, 1) := by decide +kernel
theorem dX6_meanCost_2 : decode cX6_meanCost 2 = .ok (.getfield 139, 3) := by decide +kernel
theorem dX6_meanCost_5 : decode cX6_meanCost 5 = .ok (.ifCond .ne 7, 3) := by decide +kernel
theorem dX6_meanCost_8 : decode cX6_meanCost 8 = .ok (.iconst 1, 1) := by decide +kernel
theorem dX6_meanCost_9 : decode cX6_meanCost 9 = .ok (.goto 4, 3) := by decide +kernel
theorem dX6_meanCost_12 : decode cX6_meanCost 12 = .ok (.iconst 0, 1) := by decide +kernel
theorem dX6_meanCost_13 : decode cX6_meanCost 13 = .ok (.putfield 54, 3) := by decide +kernel
theorem dX6_meanCost_16 : decode cX6_meanCost 16 = .ok (.aload_n 0, 1) := by decide +kernel
theorem dX6_meanCost_17 : decode cX6_meanCost 17 = .ok (.getfield 54, 3) := by decide +kernel
theorem dX6_meanCost_20 : decode cX6_meanCost 20 = .ok (.ifCond .ne 17, 3) := by decide +kernel
theorem dX6_meanCost_23 : decode cX6_meanCost 23 = .ok (.aload_n 0, 1) := by decide +kernel
theorem dX6_meanCost_24 : decode cX6_meanCost 24 = .ok (.getfield 159, 3) := by decide +kernel
theorem dX6_meanCost_27 : decode cX6_meanCost 27 = .ok (.l2d, 1) := by decide +kernel
theorem dX6_meanCost_28 : decode cX6_meanCost 28 = .ok (.aload_n 0, 1) := by decide +kernel
theorem dX6_meanCost_29 : decode cX6_meanCost 29 = .ok (.getfield 139, 3) := by decide +kernel
theorem dX6_meanCost_32 : decode cX6_meanCost 32 = .ok (.i2d, 1) := by decide +kernel
theorem dX6_meanCost_33 : decode cX6_meanCost 33 = .ok (.ddiv, 1) := by decide +kernel
theorem dX6_meanCost_34 : decode cX6_meanCost 34 = .ok (.goto 4, 3) := by decide +kernel
theorem dX6_meanCost_37 : decode cX6_meanCost 37 = .ok (.dconst 0, 1) := by decide +kernel
theorem dX6_meanCost_38 : decode cX6_meanCost 38 = .ok (.dreturn, 1) := by decide +kernel
theorem dJx00060_init_a7421_0 : decode cJx00060_init_a7421 0 = .ok (.aload_n 0, 1) := by decide +kernel
theorem dJx00060_init_a7421_1 : decode cJx00060_init_a7421 1 = .ok (.aload_n 1, 1) := by decide +kernel
theorem dJx00060_init_a7421_2 : decode cJx00060_init_a7421 2 = .ok (.invokespecial 7, 3) := by decide +kernel
theorem dJx00060_init_a7421_5 : decode cJx00060_init_a7421 5 = .ok (.return_, 1) := by decide +kernel
theorem dJ9_floorMod_7cf53_0 : decode cJ9_floorMod_7cf53 0 = .ok (.iload_n 0, 1) := by decide +kernel
theorem dJ9_floorMod_7cf53_1 : decode cJ9_floorMod_7cf53 1 = .ok (.iload_n 1, 1) := by decide +kernel
theorem dJ9_floorMod_7cf53_2 : decode cJ9_floorMod_7cf53 2 = .ok (.irem, 1) := by decide +kernel
theorem dJ9_floorMod_7cf53_3 : decode cJ9_floorMod_7cf53 3 = .ok (.istore_n 2, 1) := by decide +kernel
theorem dJ9_floorMod_7cf53_4 : decode cJ9_floorMod_7cf53 4 = .ok (.iload_n 0, 1) := by decide +kernel
theorem dJ9_floorMod_7cf53_5 : decode cJ9_floorMod_7cf53 5 = .ok (.iload_n 1, 1) := by decide +kernel
theorem dJ9_floorMod_7cf53_6 : decode cJ9_floorMod_7cf53 6 = .ok (.ixor, 1) := by decide +kernel
theorem dJ9_floorMod_7cf53_7 : decode cJ9_floorMod_7cf53 7 = .ok (.ifCond .ge 11, 3) := by decide +kernel
theorem dJ9_floorMod_7cf53_10 : decode cJ9_floorMod_7cf53 10 = .ok (.iload_n 2, 1) := by decide +kernel
theorem dJ9_floorMod_7cf53_11 : decode cJ9_floorMod_7cf53 11 = .ok (.ifCond .eq 7, 3) := by decide +kernel
theorem dJ9_floorMod_7cf53_14 : decode cJ9_floorMod_7cf53 14 = .ok (.iload_n 2, 1) := by decide +kernel
theorem dJ9_floorMod_7cf53_15 : decode cJ9_floorMod_7cf53 15 = .ok (.iload_n 1, 1) := by decide +kernel
theorem dJ9_floorMod_7cf53_16 : decode cJ9_floorMod_7cf53 16 = .ok (.iadd, 1) := by decide +kernel
theorem dJ9_floorMod_7cf53_17 : decode cJ9_floorMod_7cf53 17 = .ok (.ireturn, 1) := by decide +kernel
theorem dJ9_floorMod_7cf53_18 : decode cJ9_floorMod_7cf53 18 = .ok (.iload_n 2, 1) := by decide +kernel
theorem dJ9_floorMod_7cf53_19 : decode cJ9_floorMod_7cf53 19 = .ok (.ireturn, 1) := by decide +kernel
theorem dJ9_max_7cf53_0 : decode cJ9_max_7cf53 0 = .ok (.iload_n 0, 1) := by decide +kernel
theorem dJ9_max_7cf53_1 : decode cJ9_max_7cf53 1 = .ok (.iload_n 1, 1) := by decide +kernel
theorem dJ9_max_7cf53_2 : decode cJ9_max_7cf53 2 = .ok (.if_icmp .lt 7, 3) := by decide +kernel
theorem dJ9_max_7cf53_5 : decode cJ9_max_7cf53 5 = .ok (.iload_n 0, 1) := by decide +kernel
theorem dJ9_max_7cf53_6 : decode cJ9_max_7cf53 6 = .ok (.goto 4, 3) := by decide +kernel
theorem dJ9_max_7cf53_9 : decode cJ9_max_7cf53 9 = .ok (.iload_n 1, 1) := by decide +kernel
theorem dJ9_max_7cf53_10 : decode cJ9_max_7cf53 10 = .ok (.ireturn, 1) := by decide +kernel
theorem dJ9_min_7cf53_0 : decode cJ9_min_7cf53 0 = .ok (.iload_n 0, 1) := by decide +kernel
theorem dJ9_min_7cf53_1 : decode cJ9_min_7cf53 1 = .ok (.iload_n 1, 1) := by decide +kernel
theorem dJ9_min_7cf53_2 : decode cJ9_min_7cf53 2 = .ok (.if_icmp .gt 7, 3) := by decide +kernel
theorem dJ9_min_7cf53_5 : decode cJ9_min_7cf53 5 = .ok (.iload_n 0, 1) := by decide +kernel
theorem dJ9_min_7cf53_6 : decode cJ9_min_7cf53 6 = .ok (.goto 4, 3) := by decide +kernel
theorem dJ9_min_7cf53_9 : decode cJ9_min_7cf53 9 = .ok (.iload_n 1, 1) := by decide +kernel
theorem dJ9_min_7cf53_10 : decode cJ9_min_7cf53 10 = .ok (.ireturn, 1) := by decide +kernel
theorem dJ7_fill_53178_0 : decode cJ7_fill_53178 0 = .ok (.iconst 0, 1) := by decide +kernel
theorem dJ7_fill_53178_1 : decode cJ7_fill_53178 1 = .ok (.istore_n 2, 1) := by decide +kernel
theorem dJ7_fill_53178_2 : decode cJ7_fill_53178 2 = .ok (.aload_n 0, 1) := by decide +kernel
theorem dJ7_fill_53178_3 : decode cJ7_fill_53178 3 = .ok (.arraylength, 1) := by decide +kernel
theorem dJ7_fill_53178_4 : decode cJ7_fill_53178 4 = .ok (.istore_n 3, 1) := by decide +kernel
theorem dJ7_fill_53178_5 : decode cJ7_fill_53178 5 = .ok (.iload_n 2, 1) := by decide +kernel
theorem dJ7_fill_53178_6 : decode cJ7_fill_53178 6 = .ok (.iload_n 3, 1) := by decide +kernel
theorem dJ7_fill_53178_7 : decode cJ7_fill_53178 7 = .ok (.if_icmp .ge 13, 3) := by decide +kernel
theorem dJ7_fill_53178_10 : decode cJ7_fill_53178 10 = .ok (.aload_n 0, 1) := by decide +kernel
theorem dJ7_fill_53178_11 : decode cJ7_fill_53178 11 = .ok (.iload_n 2, 1) := by decide +kernel
theorem dJ7_fill_53178_12 : decode cJ7_fill_53178 12 = .ok (.iload_n 1, 1) := by decide +kernel
theorem dJ7_fill_53178_13 : decode cJ7_fill_53178 13 = .ok (.iastore, 1) := by decide +kernel
theorem dJ7_fill_53178_14 : decode cJ7_fill_53178 14 = .ok (.iinc 2 1, 3) := by decide +kernel
theorem dJ7_fill_53178_17 : decode cJ7_fill_53178 17 = .ok (.goto (-12), 3) := by decide +kernel
theorem dJ7_fill_53178_20 : decode cJ7_fill_53178 20 = .ok (.return_, 1) := by decide +kernel
theorem dL_addTrain_0 : decode cL_addTrain 0 = .ok (.aload_n 2, 1) := by decide +kernel
theorem dL_addTrain_1 : decode cL_addTrain 1 = .ok (.iconst 0, 1) := by decide +kernel
theorem dL_addTrain_2 : decode cL_addTrain 2 = .ok (.aload_n 0, 1) := by decide +kernel
theorem dL_addTrain_3 : decode cL_addTrain 3 = .ok (.iload_n 1, 1) := by decide +kernel
theorem dL_addTrain_4 : decode cL_addTrain 4 = .ok (.invokevirtual 7, 3) := by decide +kernel
theorem dL_addTrain_7 : decode cL_addTrain 7 = .ok (.i2l, 1) := by decide +kernel
theorem dL_addTrain_8 : decode cL_addTrain 8 = .ok (.lastore, 1) := by decide +kernel
theorem dL_addTrain_9 : decode cL_addTrain 9 = .ok (.goto 9, 3) := by decide +kernel
theorem dL_addTrain_12 : decode cL_addTrain 12 = .ok (.astore_n 3, 1) := by decide +kernel
theorem dL_addTrain_13 : decode cL_addTrain 13 = .ok (.iconst 1, 1) := by decide +kernel
theorem dL_addTrain_14 : decode cL_addTrain 14 = .ok (.ireturn, 1) := by decide +kernel
theorem dL_addTrain_15 : decode cL_addTrain 15 = .ok (.astore_n 3, 1) := by decide +kernel
theorem dL_addTrain_16 : decode cL_addTrain 16 = .ok (.iconst 2, 1) := by decide +kernel
theorem dL_addTrain_17 : decode cL_addTrain 17 = .ok (.ireturn, 1) := by decide +kernel
theorem dL_addTrain_18 : decode cL_addTrain 18 = .ok (.iconst 0, 1) := by decide +kernel
theorem dL_addTrain_19 : decode cL_addTrain 19 = .ok (.ireturn, 1) := by decide +kernel
theorem dL_setPressure_0 : decode cL_setPressure 0 = .ok (.aload_n 3, 1) := by decide +kernel
theorem dL_setPressure_1 : decode cL_setPressure 1 = .ok (.iconst 0, 1) := by decide +kernel
theorem dL_setPressure_2 : decode cL_setPressure 2 = .ok (.aload_n 0, 1) := by decide +kernel
theorem dL_setPressure_3 : decode cL_setPressure 3 = .ok (.iload_n 1, 1) := by decide +kernel
theorem dL_setPressure_4 : decode cL_setPressure 4 = .ok (.iload_n 2, 1) := by decide +kernel
theorem dL_setPressure_5 : decode cL_setPressure 5 = .ok (.invokevirtual 17, 3) := by decide +kernel
theorem dL_setPressure_8 : decode cL_setPressure 8 = .ok (.i2l, 1) := by decide +kernel
theorem dL_setPressure_9 : decode cL_setPressure 9 = .ok (.lastore, 1) := by decide +kernel
theorem dL_setPressure_10 : decode cL_setPressure 10 = .ok (.goto 11, 3) := by decide +kernel
theorem dL_setPressure_13 : decode cL_setPressure 13 = .ok (.astore 4, 2) := by decide +kernel
theorem dL_setPressure_15 : decode cL_setPressure 15 = .ok (.iconst 1, 1) := by decide +kernel
theorem dL_setPressure_16 : decode cL_setPressure 16 = .ok (.ireturn, 1) := by decide +kernel
theorem dL_setPressure_17 : decode cL_setPressure 17 = .ok (.astore 4, 2) := by decide +kernel
theorem dL_setPressure_19 : decode cL_setPressure 19 = .ok (.iconst 2, 1) := by decide +kernel
theorem dL_setPressure_20 : decode cL_setPressure 20 = .ok (.ireturn, 1) := by decide +kernel
theorem dL_setPressure_21 : decode cL_setPressure 21 = .ok (.iconst 0, 1) := by decide +kernel
theorem dL_setPressure_22 : decode cL_setPressure 22 = .ok (.ireturn, 1) := by decide +kernel
theorem dL_setSalinity_0 : decode cL_setSalinity 0 = .ok (.aload_n 2, 1) := by decide +kernel
theorem dL_setSalinity_1 : decode cL_setSalinity 1 = .ok (.iconst 0, 1) := by decide +kernel
theorem dL_setSalinity_2 : decode cL_setSalinity 2 = .ok (.aload_n 0, 1) := by decide +kernel
theorem dL_setSalinity_3 : decode cL_setSalinity 3 = .ok (.iload_n 1, 1) := by decide +kernel
theorem dL_setSalinity_4 : decode cL_setSalinity 4 = .ok (.invokevirtual 23, 3) := by decide +kernel
theorem dL_setSalinity_7 : decode cL_setSalinity 7 = .ok (.i2l, 1) := by decide +kernel
theorem dL_setSalinity_8 : decode cL_setSalinity 8 = .ok (.lastore, 1) := by decide +kernel
theorem dL_setSalinity_9 : decode cL_setSalinity 9 = .ok (.goto 6, 3) := by decide +kernel
theorem dL_setSalinity_12 : decode cL_setSalinity 12 = .ok (.astore_n 3, 1) := by decide +kernel
theorem dL_setSalinity_13 : decode cL_setSalinity 13 = .ok (.iconst 1, 1) := by decide +kernel
theorem dL_setSalinity_14 : decode cL_setSalinity 14 = .ok (.ireturn, 1) := by decide +kernel
theorem dL_setSalinity_15 : decode cL_setSalinity 15 = .ok (.iconst 0, 1) := by decide +kernel
theorem dL_setSalinity_16 : decode cL_setSalinity 16 = .ok (.ireturn, 1) := by decide +kernel
theorem dL_setRecovery_0 : decode cL_setRecovery 0 = .ok (.aload_n 2, 1) := by decide +kernel
theorem dL_setRecovery_1 : decode cL_setRecovery 1 = .ok (.iconst 0, 1) := by decide +kernel
theorem dL_setRecovery_2 : decode cL_setRecovery 2 = .ok (.aload_n 0, 1) := by decide +kernel
theorem dL_setRecovery_3 : decode cL_setRecovery 3 = .ok (.iload_n 1, 1) := by decide +kernel
theorem dL_setRecovery_4 : decode cL_setRecovery 4 = .ok (.invokevirtual 26, 3) := by decide +kernel
theorem dL_setRecovery_7 : decode cL_setRecovery 7 = .ok (.i2l, 1) := by decide +kernel
theorem dL_setRecovery_8 : decode cL_setRecovery 8 = .ok (.lastore, 1) := by decide +kernel
theorem dL_setRecovery_9 : decode cL_setRecovery 9 = .ok (.goto 6, 3) := by decide +kernel
theorem dL_setRecovery_12 : decode cL_setRecovery 12 = .ok (.astore_n 3, 1) := by decide +kernel
theorem dL_setRecovery_13 : decode cL_setRecovery 13 = .ok (.iconst 1, 1) := by decide +kernel
theorem dL_setRecovery_14 : decode cL_setRecovery 14 = .ok (.ireturn, 1) := by decide +kernel
theorem dL_setRecovery_15 : decode cL_setRecovery 15 = .ok (.iconst 0, 1) := by decide +kernel
theorem dL_setRecovery_16 : decode cL_setRecovery 16 = .ok (.ireturn, 1) := by decide +kernel
theorem dL_clean_0 : decode cL_clean 0 = .ok (.aload_n 2, 1) := by decide +kernel
theorem dL_clean_1 : decode cL_clean 1 = .ok (.iconst 0, 1) := by decide +kernel
theorem dL_clean_2 : decode cL_clean 2 = .ok (.aload_n 0, 1) := by decide +kernel
theorem dL_clean_3 : decode cL_clean 3 = .ok (.iload_n 1, 1) := by decide +kernel
theorem dL_clean_4 : decode cL_clean 4 = .ok (.invokevirtual 29, 3) := by decide +kernel
theorem dL_clean_7 : decode cL_clean 7 = .ok (.i2l, 1) := by decide +kernel
theorem dL_clean_8 : decode cL_clean 8 = .ok (.lastore, 1) := by decide +kernel
theorem dL_clean_9 : decode cL_clean 9 = .ok (.goto 12, 3) := by decide +kernel
theorem dL_clean_12 : decode cL_clean 12 = .ok (.astore_n 3, 1) := by decide +kernel
theorem dL_clean_13 : decode cL_clean 13 = .ok (.iconst 1, 1) := by decide +kernel
theorem dL_clean_14 : decode cL_clean 14 = .ok (.ireturn, 1) := by decide +kernel
theorem dL_clean_15 : decode cL_clean 15 = .ok (.astore_n 3, 1) := by decide +kernel
theorem dL_clean_16 : decode cL_clean 16 = .ok (.iconst 2, 1) := by decide +kernel
theorem dL_clean_17 : decode cL_clean 17 = .ok (.ireturn, 1) := by decide +kernel
theorem dL_clean_18 : decode cL_clean 18 = .ok (.astore_n 3, 1) := by decide +kernel
theorem dL_clean_19 : decode cL_clean 19 = .ok (.iconst 3, 1) := by decide +kernel
theorem dL_clean_20 : decode cL_clean 20 = .ok (.ireturn, 1) := by decide +kernel
theorem dL_clean_21 : decode cL_clean 21 = .ok (.iconst 0, 1) := by decide +kernel
theorem dL_clean_22 : decode cL_clean 22 = .ok (.ireturn, 1) := by decide +kernel
theorem dL_fouling_0 : decode cL_fouling 0 = .ok (.aload_n 2, 1) := by decide +kernel
theorem dL_fouling_1 : decode cL_fouling 1 = .ok (.iconst 0, 1) := by decide +kernel
theorem dL_fouling_2 : decode cL_fouling 2 = .ok (.aload_n 0, 1) := by decide +kernel
theorem dL_fouling_3 : decode cL_fouling 3 = .ok (.iload_n 1, 1) := by decide +kernel
theorem dL_fouling_4 : decode cL_fouling 4 = .ok (.invokevirtual 34, 3) := by decide +kernel
theorem dL_fouling_7 : decode cL_fouling 7 = .ok (.i2l, 1) := by decide +kernel
theorem dL_fouling_8 : decode cL_fouling 8 = .ok (.lastore, 1) := by decide +kernel
theorem dL_fouling_9 : decode cL_fouling 9 = .ok (.goto 6, 3) := by decide +kernel
theorem dL_fouling_12 : decode cL_fouling 12 = .ok (.astore_n 3, 1) := by decide +kernel
theorem dL_fouling_13 : decode cL_fouling 13 = .ok (.iconst 1, 1) := by decide +kernel
theorem dL_fouling_14 : decode cL_fouling 14 = .ok (.ireturn, 1) := by decide +kernel
theorem dL_fouling_15 : decode cL_fouling 15 = .ok (.iconst 0, 1) := by decide +kernel
theorem dL_fouling_16 : decode cL_fouling 16 = .ok (.ireturn, 1) := by decide +kernel
theorem dL_wear_0 : decode cL_wear 0 = .ok (.aload_n 2, 1) := by decide +kernel
theorem dL_wear_1 : decode cL_wear 1 = .ok (.iconst 0, 1) := by decide +kernel
theorem dL_wear_2 : decode cL_wear 2 = .ok (.aload_n 0, 1) := by decide +kernel
theorem dL_wear_3 : decode cL_wear 3 = .ok (.iload_n 1, 1) := by decide +kernel
theorem dL_wear_4 : decode cL_wear 4 = .ok (.invokevirtual 37, 3) := by decide +kernel
theorem dL_wear_7 : decode cL_wear 7 = .ok (.i2l, 1) := by decide +kernel
theorem dL_wear_8 : decode cL_wear 8 = .ok (.lastore, 1) := by decide +kernel
theorem dL_wear_9 : decode cL_wear 9 = .ok (.goto 6, 3) := by decide +kernel
theorem dL_wear_12 : decode cL_wear 12 = .ok (.astore_n 3, 1) := by decide +kernel
theorem dL_wear_13 : decode cL_wear 13 = .ok (.iconst 1, 1) := by decide +kernel
theorem dL_wear_14 : decode cL_wear 14 = .ok (.ireturn, 1) := by decide +kernel
theorem dL_wear_15 : decode cL_wear 15 = .ok (.iconst 0, 1) := by decide +kernel
theorem dL_wear_16 : decode cL_wear 16 = .ok (.ireturn, 1) := by decide +kernel
theorem dL_cleaningLeft_0 : decode cL_cleaningLeft 0 = .ok (.aload_n 2, 1) := by decide +kernel
theorem dL_cleaningLeft_1 : decode cL_cleaningLeft 1 = .ok (.iconst 0, 1) := by decide +kernel
theorem dL_cleaningLeft_2 : decode cL_cleaningLeft 2 = .ok (.aload_n 0, 1) := by decide +kernel
theorem dL_cleaningLeft_3 : decode cL_cleaningLeft 3 = .ok (.iload_n 1, 1) := by decide +kernel
theorem dL_cleaningLeft_4 : decode cL_cleaningLeft 4 = .ok (.invokevirtual 40, 3) := by decide +kernel
theorem dL_cleaningLeft_7 : decode cL_cleaningLeft 7 = .ok (.i2l, 1) := by decide +kernel
theorem dL_cleaningLeft_8 : decode cL_cleaningLeft 8 = .ok (.lastore, 1) := by decide +kernel
theorem dL_cleaningLeft_9 : decode cL_cleaningLeft 9 = .ok (.goto 6, 3) := by decide +kernel
theorem dL_cleaningLeft_12 : decode cL_cleaningLeft 12 = .ok (.astore_n 3, 1) := by decide +kernel
theorem dL_cleaningLeft_13 : decode cL_cleaningLeft 13 = .ok (.iconst 1, 1) := by decide +kernel
theorem dL_cleaningLeft_14 : decode cL_cleaningLeft 14 = .ok (.ireturn, 1) := by decide +kernel
theorem dL_cleaningLeft_15 : decode cL_cleaningLeft 15 = .ok (.iconst 0, 1) := by decide +kernel
theorem dL_cleaningLeft_16 : decode cL_cleaningLeft 16 = .ok (.ireturn, 1) := by decide +kernel
theorem dL_productOf_0 : decode cL_productOf 0 = .ok (.aload_n 2, 1) := by decide +kernel
theorem dL_productOf_1 : decode cL_productOf 1 = .ok (.iconst 0, 1) := by decide +kernel
theorem dL_productOf_2 : decode cL_productOf 2 = .ok (.aload_n 0, 1) := by decide +kernel
theorem dL_productOf_3 : decode cL_productOf 3 = .ok (.iload_n 1, 1) := by decide +kernel
theorem dL_productOf_4 : decode cL_productOf 4 = .ok (.invokevirtual 43, 3) := by decide +kernel
theorem dL_productOf_7 : decode cL_productOf 7 = .ok (.i2l, 1) := by decide +kernel
theorem dL_productOf_8 : decode cL_productOf 8 = .ok (.lastore, 1) := by decide +kernel
theorem dL_productOf_9 : decode cL_productOf 9 = .ok (.goto 9, 3) := by decide +kernel
theorem dL_productOf_12 : decode cL_productOf 12 = .ok (.astore_n 3, 1) := by decide +kernel
theorem dL_productOf_13 : decode cL_productOf 13 = .ok (.iconst 1, 1) := by decide +kernel
theorem dL_productOf_14 : decode cL_productOf 14 = .ok (.ireturn, 1) := by decide +kernel
theorem dL_productOf_15 : decode cL_productOf 15 = .ok (.astore_n 3, 1) := by decide +kernel
theorem dL_productOf_16 : decode cL_productOf 16 = .ok (.iconst 2, 1) := by decide +kernel
theorem dL_productOf_17 : decode cL_productOf 17 = .ok (.ireturn, 1) := by decide +kernel
theorem dL_productOf_18 : decode cL_productOf 18 = .ok (.iconst 0, 1) := by decide +kernel
theorem dL_productOf_19 : decode cL_productOf 19 = .ok (.ireturn, 1) := by decide +kernel
theorem dL_energyOf_0 : decode cL_energyOf 0 = .ok (.aload_n 2, 1) := by decide +kernel
theorem dL_energyOf_1 : decode cL_energyOf 1 = .ok (.iconst 0, 1) := by decide +kernel
theorem dL_energyOf_2 : decode cL_energyOf 2 = .ok (.aload_n 0, 1) := by decide +kernel
theorem dL_energyOf_3 : decode cL_energyOf 3 = .ok (.iload_n 1, 1) := by decide +kernel
theorem dL_energyOf_4 : decode cL_energyOf 4 = .ok (.invokevirtual 46, 3) := by decide +kernel
theorem dL_energyOf_7 : decode cL_energyOf 7 = .ok (.i2l, 1) := by decide +kernel
theorem dL_energyOf_8 : decode cL_energyOf 8 = .ok (.lastore, 1) := by decide +kernel
theorem dL_energyOf_9 : decode cL_energyOf 9 = .ok (.goto 9, 3) := by decide +kernel
theorem dL_energyOf_12 : decode cL_energyOf 12 = .ok (.astore_n 3, 1) := by decide +kernel
theorem dL_energyOf_13 : decode cL_energyOf 13 = .ok (.iconst 1, 1) := by decide +kernel
theorem dL_energyOf_14 : decode cL_energyOf 14 = .ok (.ireturn, 1) := by decide +kernel
theorem dL_energyOf_15 : decode cL_energyOf 15 = .ok (.astore_n 3, 1) := by decide +kernel
theorem dL_energyOf_16 : decode cL_energyOf 16 = .ok (.iconst 2, 1) := by decide +kernel
theorem dL_energyOf_17 : decode cL_energyOf 17 = .ok (.ireturn, 1) := by decide +kernel
theorem dL_energyOf_18 : decode cL_energyOf 18 = .ok (.iconst 0, 1) := by decide +kernel
theorem dL_energyOf_19 : decode cL_energyOf 19 = .ok (.ireturn, 1) := by decide +kernel
theorem dL_addTank_0 : decode cL_addTank 0 = .ok (.aload_n 2, 1) := by decide +kernel
theorem dL_addTank_1 : decode cL_addTank 1 = .ok (.iconst 0, 1) := by decide +kernel
theorem dL_addTank_2 : decode cL_addTank 2 = .ok (.aload_n 0, 1) := by decide +kernel
theorem dL_addTank_3 : decode cL_addTank 3 = .ok (.iload_n 1, 1) := by decide +kernel
theorem dL_addTank_4 : decode cL_addTank 4 = .ok (.invokevirtual 49, 3) := by decide +kernel
theorem dL_addTank_7 : decode cL_addTank 7 = .ok (.i2l, 1) := by decide +kernel
theorem dL_addTank_8 : decode cL_addTank 8 = .ok (.lastore, 1) := by decide +kernel
theorem dL_addTank_9 : decode cL_addTank 9 = .ok (.goto 9, 3) := by decide +kernel
theorem dL_addTank_12 : decode cL_addTank 12 = .ok (.astore_n 3, 1) := by decide +kernel
theorem dL_addTank_13 : decode cL_addTank 13 = .ok (.iconst 1, 1) := by decide +kernel
theorem dL_addTank_14 : decode cL_addTank 14 = .ok (.ireturn, 1) := by decide +kernel
theorem dL_addTank_15 : decode cL_addTank 15 = .ok (.astore_n 3, 1) := by decide +kernel
theorem dL_addTank_16 : decode cL_addTank 16 = .ok (.iconst 2, 1) := by decide +kernel
theorem dL_addTank_17 : decode cL_addTank 17 = .ok (.ireturn, 1) := by decide +kernel
theorem dL_addTank_18 : decode cL_addTank 18 = .ok (.iconst 0, 1) := by decide +kernel
theorem dL_addTank_19 : decode cL_addTank 19 = .ok (.ireturn, 1) := by decide +kernel
theorem dL_setDemand_0 : decode cL_setDemand 0 = .ok (.aload 5, 2) := by decide +kernel
theorem dL_setDemand_2 : decode cL_setDemand 2 = .ok (.iconst 0, 1) := by decide +kernel
theorem dL_setDemand_3 : decode cL_setDemand 3 = .ok (.aload_n 0, 1) := by decide +kernel
theorem dL_setDemand_4 : decode cL_setDemand 4 = .ok (.iload_n 1, 1) := by decide +kernel
theorem dL_setDemand_5 : decode cL_setDemand 5 = .ok (.iload_n 2, 1) := by decide +kernel
theorem dL_setDemand_6 : decode cL_setDemand 6 = .ok (.iload_n 3, 1) := by decide +kernel
theorem dL_setDemand_7 : decode cL_setDemand 7 = .ok (.iload 4, 2) := by decide +kernel
theorem dL_setDemand_9 : decode cL_setDemand 9 = .ok (.invokevirtual 52, 3) := by decide +kernel
theorem dL_setDemand_12 : decode cL_setDemand 12 = .ok (.i2l, 1) := by decide +kernel
theorem dL_setDemand_13 : decode cL_setDemand 13 = .ok (.lastore, 1) := by decide +kernel
theorem dL_setDemand_14 : decode cL_setDemand 14 = .ok (.goto 11, 3) := by decide +kernel
theorem dL_setDemand_17 : decode cL_setDemand 17 = .ok (.astore 6, 2) := by decide +kernel
theorem dL_setDemand_19 : decode cL_setDemand 19 = .ok (.iconst 1, 1) := by decide +kernel
theorem dL_setDemand_20 : decode cL_setDemand 20 = .ok (.ireturn, 1) := by decide +kernel
theorem dL_setDemand_21 : decode cL_setDemand 21 = .ok (.astore 6, 2) := by decide +kernel
theorem dL_setDemand_23 : decode cL_setDemand 23 = .ok (.iconst 2, 1) := by decide +kernel
theorem dL_setDemand_24 : decode cL_setDemand 24 = .ok (.ireturn, 1) := by decide +kernel
theorem dL_setDemand_25 : decode cL_setDemand 25 = .ok (.iconst 0, 1) := by decide +kernel
theorem dL_setDemand_26 : decode cL_setDemand 26 = .ok (.ireturn, 1) := by decide +kernel
theorem dL_setPrice_0 : decode cL_setPrice 0 = .ok (.aload 4, 2) := by decide +kernel
theorem dL_setPrice_2 : decode cL_setPrice 2 = .ok (.iconst 0, 1) := by decide +kernel
theorem dL_setPrice_3 : decode cL_setPrice 3 = .ok (.aload_n 0, 1) := by decide +kernel
theorem dL_setPrice_4 : decode cL_setPrice 4 = .ok (.iload_n 1, 1) := by decide +kernel
theorem dL_setPrice_5 : decode cL_setPrice 5 = .ok (.iload_n 2, 1) := by decide +kernel
theorem dL_setPrice_6 : decode cL_setPrice 6 = .ok (.iload_n 3, 1) := by decide +kernel
theorem dL_setPrice_7 : decode cL_setPrice 7 = .ok (.invokevirtual 56, 3) := by decide +kernel
theorem dL_setPrice_10 : decode cL_setPrice 10 = .ok (.i2l, 1) := by decide +kernel
theorem dL_setPrice_11 : decode cL_setPrice 11 = .ok (.lastore, 1) := by decide +kernel
theorem dL_setPrice_12 : decode cL_setPrice 12 = .ok (.goto 7, 3) := by decide +kernel
theorem dL_setPrice_15 : decode cL_setPrice 15 = .ok (.astore 5, 2) := by decide +kernel
theorem dL_setPrice_17 : decode cL_setPrice 17 = .ok (.iconst 1, 1) := by decide +kernel
theorem dL_setPrice_18 : decode cL_setPrice 18 = .ok (.ireturn, 1) := by decide +kernel
theorem dL_setPrice_19 : decode cL_setPrice 19 = .ok (.iconst 0, 1) := by decide +kernel
theorem dL_setPrice_20 : decode cL_setPrice 20 = .ok (.ireturn, 1) := by decide +kernel
theorem dL_demand_0 : decode cL_demand 0 = .ok (.aload_n 3, 1) := by decide +kernel
theorem dL_demand_1 : decode cL_demand 1 = .ok (.iconst 0, 1) := by decide +kernel
theorem dL_demand_2 : decode cL_demand 2 = .ok (.aload_n 0, 1) := by decide +kernel
theorem dL_demand_3 : decode cL_demand 3 = .ok (.iload_n 1, 1) := by decide +kernel
theorem dL_demand_4 : decode cL_demand 4 = .ok (.iload_n 2, 1) := by decide +kernel
theorem dL_demand_5 : decode cL_demand 5 = .ok (.invokevirtual 60, 3) := by decide +kernel
theorem dL_demand_8 : decode cL_demand 8 = .ok (.i2l, 1) := by decide +kernel
theorem dL_demand_9 : decode cL_demand 9 = .ok (.lastore, 1) := by decide +kernel
theorem dL_demand_10 : decode cL_demand 10 = .ok (.goto 11, 3) := by decide +kernel
theorem dL_demand_13 : decode cL_demand 13 = .ok (.astore 4, 2) := by decide +kernel
theorem dL_demand_15 : decode cL_demand 15 = .ok (.iconst 1, 1) := by decide +kernel
theorem dL_demand_16 : decode cL_demand 16 = .ok (.ireturn, 1) := by decide +kernel
theorem dL_demand_17 : decode cL_demand 17 = .ok (.astore 4, 2) := by decide +kernel
theorem dL_demand_19 : decode cL_demand 19 = .ok (.iconst 2, 1) := by decide +kernel
theorem dL_demand_20 : decode cL_demand 20 = .ok (.ireturn, 1) := by decide +kernel
theorem dL_demand_21 : decode cL_demand 21 = .ok (.iconst 0, 1) := by decide +kernel
theorem dL_demand_22 : decode cL_demand 22 = .ok (.ireturn, 1) := by decide +kernel
theorem dL_level_0 : decode cL_level 0 = .ok (.aload_n 2, 1) := by decide +kernel
theorem dL_level_1 : decode cL_level 1 = .ok (.iconst 0, 1) := by decide +kernel
theorem dL_level_2 : decode cL_level 2 = .ok (.aload_n 0, 1) := by decide +kernel
theorem dL_level_3 : decode cL_level 3 = .ok (.iload_n 1, 1) := by decide +kernel
theorem dL_level_4 : decode cL_level 4 = .ok (.invokevirtual 63, 3) := by decide +kernel
theorem dL_level_7 : decode cL_level 7 = .ok (.i2l, 1) := by decide +kernel
theorem dL_level_8 : decode cL_level 8 = .ok (.lastore, 1) := by decide +kernel
theorem dL_level_9 : decode cL_level 9 = .ok (.goto 6, 3) := by decide +kernel
theorem dL_level_12 : decode cL_level 12 = .ok (.astore_n 3, 1) := by decide +kernel
theorem dL_level_13 : decode cL_level 13 = .ok (.iconst 1, 1) := by decide +kernel
theorem dL_level_14 : decode cL_level 14 = .ok (.ireturn, 1) := by decide +kernel
theorem dL_level_15 : decode cL_level 15 = .ok (.iconst 0, 1) := by decide +kernel
theorem dL_level_16 : decode cL_level 16 = .ok (.ireturn, 1) := by decide +kernel
theorem dL_shortOf_0 : decode cL_shortOf 0 = .ok (.aload_n 2, 1) := by decide +kernel
theorem dL_shortOf_1 : decode cL_shortOf 1 = .ok (.iconst 0, 1) := by decide +kernel
theorem dL_shortOf_2 : decode cL_shortOf 2 = .ok (.aload_n 0, 1) := by decide +kernel
theorem dL_shortOf_3 : decode cL_shortOf 3 = .ok (.iload_n 1, 1) := by decide +kernel
theorem dL_shortOf_4 : decode cL_shortOf 4 = .ok (.invokevirtual 66, 3) := by decide +kernel
theorem dL_shortOf_7 : decode cL_shortOf 7 = .ok (.i2l, 1) := by decide +kernel
theorem dL_shortOf_8 : decode cL_shortOf 8 = .ok (.lastore, 1) := by decide +kernel
theorem dL_shortOf_9 : decode cL_shortOf 9 = .ok (.goto 6, 3) := by decide +kernel
theorem dL_shortOf_12 : decode cL_shortOf 12 = .ok (.astore_n 3, 1) := by decide +kernel
theorem dL_shortOf_13 : decode cL_shortOf 13 = .ok (.iconst 1, 1) := by decide +kernel
theorem dL_shortOf_14 : decode cL_shortOf 14 = .ok (.ireturn, 1) := by decide +kernel
theorem dL_shortOf_15 : decode cL_shortOf 15 = .ok (.iconst 0, 1) := by decide +kernel
theorem dL_shortOf_16 : decode cL_shortOf 16 = .ok (.ireturn, 1) := by decide +kernel
theorem dL_run_0 : decode cL_run 0 = .ok (.aload_n 2, 1) := by decide +kernel
theorem dL_run_1 : decode cL_run 1 = .ok (.iconst 0, 1) := by decide +kernel
theorem dL_run_2 : decode cL_run 2 = .ok (.aload_n 0, 1) := by decide +kernel
theorem dL_run_3 : decode cL_run 3 = .ok (.iload_n 1, 1) := by decide +kernel
theorem dL_run_4 : decode cL_run 4 = .ok (.invokevirtual 69, 3) := by decide +kernel
theorem dL_run_7 : decode cL_run 7 = .ok (.i2l, 1) := by decide +kernel
theorem dL_run_8 : decode cL_run 8 = .ok (.lastore, 1) := by decide +kernel
theorem dL_run_9 : decode cL_run 9 = .ok (.goto 6, 3) := by decide +kernel
theorem dL_run_12 : decode cL_run 12 = .ok (.astore_n 3, 1) := by decide +kernel
theorem dL_run_13 : decode cL_run 13 = .ok (.iconst 1, 1) := by decide +kernel
theorem dL_run_14 : decode cL_run 14 = .ok (.ireturn, 1) := by decide +kernel
theorem dL_run_15 : decode cL_run 15 = .ok (.iconst 0, 1) := by decide +kernel
theorem dL_run_16 : decode cL_run 16 = .ok (.ireturn, 1) := by decide +kernel
theorem dL_setHorizon_0 : decode cL_setHorizon 0 = .ok (.aload_n 2, 1) := by decide +kernel
theorem dL_setHorizon_1 : decode cL_setHorizon 1 = .ok (.iconst 0, 1) := by decide +kernel
theorem dL_setHorizon_2 : decode cL_setHorizon 2 = .ok (.aload_n 0, 1) := by decide +kernel
theorem dL_setHorizon_3 : decode cL_setHorizon 3 = .ok (.iload_n 1, 1) := by decide +kernel
theorem dL_setHorizon_4 : decode cL_setHorizon 4 = .ok (.invokevirtual 72, 3) := by decide +kernel
theorem dL_setHorizon_7 : decode cL_setHorizon 7 = .ok (.i2l, 1) := by decide +kernel
theorem dL_setHorizon_8 : decode cL_setHorizon 8 = .ok (.lastore, 1) := by decide +kernel
theorem dL_setHorizon_9 : decode cL_setHorizon 9 = .ok (.goto 6, 3) := by decide +kernel
theorem dL_setHorizon_12 : decode cL_setHorizon 12 = .ok (.astore_n 3, 1) := by decide +kernel
theorem dL_setHorizon_13 : decode cL_setHorizon 13 = .ok (.iconst 1, 1) := by decide +kernel
theorem dL_setHorizon_14 : decode cL_setHorizon 14 = .ok (.ireturn, 1) := by decide +kernel
theorem dL_setHorizon_15 : decode cL_setHorizon 15 = .ok (.iconst 0, 1) := by decide +kernel
theorem dL_setHorizon_16 : decode cL_setHorizon 16 = .ok (.ireturn, 1) := by decide +kernel
theorem dL_order_0 : decode cL_order 0 = .ok (.aload_n 3, 1) := by decide +kernel
theorem dL_order_1 : decode cL_order 1 = .ok (.iconst 0, 1) := by decide +kernel
theorem dL_order_2 : decode cL_order 2 = .ok (.aload_n 0, 1) := by decide +kernel
theorem dL_order_3 : decode cL_order 3 = .ok (.iload_n 1, 1) := by decide +kernel
theorem dL_order_4 : decode cL_order 4 = .ok (.iload_n 2, 1) := by decide +kernel
theorem dL_order_5 : decode cL_order 5 = .ok (.invokevirtual 75, 3) := by decide +kernel
theorem dL_order_8 : decode cL_order 8 = .ok (.i2l, 1) := by decide +kernel
theorem dL_order_9 : decode cL_order 9 = .ok (.lastore, 1) := by decide +kernel
theorem dL_order_10 : decode cL_order 10 = .ok (.goto 11, 3) := by decide +kernel
theorem dL_order_13 : decode cL_order 13 = .ok (.astore 4, 2) := by decide +kernel
theorem dL_order_15 : decode cL_order 15 = .ok (.iconst 1, 1) := by decide +kernel
theorem dL_order_16 : decode cL_order 16 = .ok (.ireturn, 1) := by decide +kernel
theorem dL_order_17 : decode cL_order 17 = .ok (.astore 4, 2) := by decide +kernel
theorem dL_order_19 : decode cL_order 19 = .ok (.iconst 2, 1) := by decide +kernel
theorem dL_order_20 : decode cL_order 20 = .ok (.ireturn, 1) := by decide +kernel
theorem dL_order_21 : decode cL_order 21 = .ok (.iconst 0, 1) := by decide +kernel
theorem dL_order_22 : decode cL_order 22 = .ok (.ireturn, 1) := by decide +kernel
theorem dL_takeBack_0 : decode cL_takeBack 0 = .ok (.aload_n 2, 1) := by decide +kernel
theorem dL_takeBack_1 : decode cL_takeBack 1 = .ok (.iconst 0, 1) := by decide +kernel
theorem dL_takeBack_2 : decode cL_takeBack 2 = .ok (.aload_n 0, 1) := by decide +kernel
theorem dL_takeBack_3 : decode cL_takeBack 3 = .ok (.iload_n 1, 1) := by decide +kernel
theorem dL_takeBack_4 : decode cL_takeBack 4 = .ok (.invokevirtual 79, 3) := by decide +kernel
theorem dL_takeBack_7 : decode cL_takeBack 7 = .ok (.ifCond .eq 7, 3) := by decide +kernel
theorem dL_takeBack_10 : decode cL_takeBack 10 = .ok (.lconst 1, 1) := by decide +kernel
theorem dL_takeBack_11 : decode cL_takeBack 11 = .ok (.goto 4, 3) := by decide +kernel
theorem dL_takeBack_14 : decode cL_takeBack 14 = .ok (.lconst 0, 1) := by decide +kernel
theorem dL_takeBack_15 : decode cL_takeBack 15 = .ok (.lastore, 1) := by decide +kernel
theorem dL_takeBack_16 : decode cL_takeBack 16 = .ok (.goto 6, 3) := by decide +kernel
theorem dL_takeBack_19 : decode cL_takeBack 19 = .ok (.astore_n 3, 1) := by decide +kernel
theorem dL_takeBack_20 : decode cL_takeBack 20 = .ok (.iconst 1, 1) := by decide +kernel
theorem dL_takeBack_21 : decode cL_takeBack 21 = .ok (.ireturn, 1) := by decide +kernel
theorem dL_takeBack_22 : decode cL_takeBack 22 = .ok (.iconst 0, 1) := by decide +kernel
theorem dL_takeBack_23 : decode cL_takeBack 23 = .ok (.ireturn, 1) := by decide +kernel
theorem dL_bestCost_0 : decode cL_bestCost 0 = .ok (.aload_n 2, 1) := by decide +kernel
theorem dL_bestCost_1 : decode cL_bestCost 1 = .ok (.iconst 0, 1) := by decide +kernel
theorem dL_bestCost_2 : decode cL_bestCost 2 = .ok (.aload_n 0, 1) := by decide +kernel
theorem dL_bestCost_3 : decode cL_bestCost 3 = .ok (.iload_n 1, 1) := by decide +kernel
theorem dL_bestCost_4 : decode cL_bestCost 4 = .ok (.invokevirtual 85, 3) := by decide +kernel
theorem dL_bestCost_7 : decode cL_bestCost 7 = .ok (.i2l, 1) := by decide +kernel
theorem dL_bestCost_8 : decode cL_bestCost 8 = .ok (.lastore, 1) := by decide +kernel
theorem dL_bestCost_9 : decode cL_bestCost 9 = .ok (.goto 9, 3) := by decide +kernel
theorem dL_bestCost_12 : decode cL_bestCost 12 = .ok (.astore_n 3, 1) := by decide +kernel
theorem dL_bestCost_13 : decode cL_bestCost 13 = .ok (.iconst 1, 1) := by decide +kernel
theorem dL_bestCost_14 : decode cL_bestCost 14 = .ok (.ireturn, 1) := by decide +kernel
theorem dL_bestCost_15 : decode cL_bestCost 15 = .ok (.astore_n 3, 1) := by decide +kernel
theorem dL_bestCost_16 : decode cL_bestCost 16 = .ok (.iconst 2, 1) := by decide +kernel
theorem dL_bestCost_17 : decode cL_bestCost 17 = .ok (.ireturn, 1) := by decide +kernel
theorem dL_bestCost_18 : decode cL_bestCost 18 = .ok (.iconst 0, 1) := by decide +kernel
theorem dL_bestCost_19 : decode cL_bestCost 19 = .ok (.ireturn, 1) := by decide +kernel
theorem dL_bestCostByTrying_0 : decode cL_bestCostByTrying 0 = .ok (.aload_n 2, 1) := by decide +kernel
theorem dL_bestCostByTrying_1 : decode cL_bestCostByTrying 1 = .ok (.iconst 0, 1) := by decide +kernel
theorem dL_bestCostByTrying_2 : decode cL_bestCostByTrying 2 = .ok (.aload_n 0, 1) := by decide +kernel
theorem dL_bestCostByTrying_3 : decode cL_bestCostByTrying 3 = .ok (.iload_n 1, 1) := by decide +kernel
theorem dL_bestCostByTrying_4 : decode cL_bestCostByTrying 4 = .ok (.invokevirtual 88, 3) := by decide +kernel
theorem dL_bestCostByTrying_7 : decode cL_bestCostByTrying 7 = .ok (.i2l, 1) := by decide +kernel
theorem dL_bestCostByTrying_8 : decode cL_bestCostByTrying 8 = .ok (.lastore, 1) := by decide +kernel
theorem dL_bestCostByTrying_9 : decode cL_bestCostByTrying 9 = .ok (.goto 9, 3) := by decide +kernel
theorem dL_bestCostByTrying_12 : decode cL_bestCostByTrying 12 = .ok (.astore_n 3, 1) := by decide +kernel
theorem dL_bestCostByTrying_13 : decode cL_bestCostByTrying 13 = .ok (.iconst 1, 1) := by decide +kernel
theorem dL_bestCostByTrying_14 : decode cL_bestCostByTrying 14 = .ok (.ireturn, 1) := by decide +kernel
theorem dL_bestCostByTrying_15 : decode cL_bestCostByTrying 15 = .ok (.astore_n 3, 1) := by decide +kernel
theorem dL_bestCostByTrying_16 : decode cL_bestCostByTrying 16 = .ok (.iconst 2, 1) := by decide +kernel
theorem dL_bestCostByTrying_17 : decode cL_bestCostByTrying 17 = .ok (.ireturn, 1) := by decide +kernel
theorem dL_bestCostByTrying_18 : decode cL_bestCostByTrying 18 = .ok (.iconst 0, 1) := by decide +kernel
theorem dL_bestCostByTrying_19 : decode cL_bestCostByTrying 19 = .ok (.ireturn, 1) := by decide +kernel
theorem dL_isOnInBest_0 : decode cL_isOnInBest 0 = .ok (.aload_n 3, 1) := by decide +kernel
theorem dL_isOnInBest_1 : decode cL_isOnInBest 1 = .ok (.iconst 0, 1) := by decide +kernel
theorem dL_isOnInBest_2 : decode cL_isOnInBest 2 = .ok (.aload_n 0, 1) := by decide +kernel
theorem dL_isOnInBest_3 : decode cL_isOnInBest 3 = .ok (.iload_n 1, 1) := by decide +kernel
theorem dL_isOnInBest_4 : decode cL_isOnInBest 4 = .ok (.iload_n 2, 1) := by decide +kernel
theorem dL_isOnInBest_5 : decode cL_isOnInBest 5 = .ok (.invokevirtual 91, 3) := by decide +kernel
theorem dL_isOnInBest_8 : decode cL_isOnInBest 8 = .ok (.ifCond .eq 7, 3) := by decide +kernel
theorem dL_isOnInBest_11 : decode cL_isOnInBest 11 = .ok (.lconst 1, 1) := by decide +kernel
theorem dL_isOnInBest_12 : decode cL_isOnInBest 12 = .ok (.goto 4, 3) := by decide +kernel
theorem dL_isOnInBest_15 : decode cL_isOnInBest 15 = .ok (.lconst 0, 1) := by decide +kernel
theorem dL_isOnInBest_16 : decode cL_isOnInBest 16 = .ok (.lastore, 1) := by decide +kernel
theorem dL_isOnInBest_17 : decode cL_isOnInBest 17 = .ok (.goto 15, 3) := by decide +kernel
theorem dL_isOnInBest_20 : decode cL_isOnInBest 20 = .ok (.astore 4, 2) := by decide +kernel
theorem dL_isOnInBest_22 : decode cL_isOnInBest 22 = .ok (.iconst 1, 1) := by decide +kernel
theorem dL_isOnInBest_23 : decode cL_isOnInBest 23 = .ok (.ireturn, 1) := by decide +kernel
theorem dL_isOnInBest_24 : decode cL_isOnInBest 24 = .ok (.astore 4, 2) := by decide +kernel
theorem dL_isOnInBest_26 : decode cL_isOnInBest 26 = .ok (.iconst 2, 1) := by decide +kernel
theorem dL_isOnInBest_27 : decode cL_isOnInBest 27 = .ok (.ireturn, 1) := by decide +kernel
theorem dL_isOnInBest_28 : decode cL_isOnInBest 28 = .ok (.astore 4, 2) := by decide +kernel
theorem dL_isOnInBest_30 : decode cL_isOnInBest 30 = .ok (.iconst 3, 1) := by decide +kernel
theorem dL_isOnInBest_31 : decode cL_isOnInBest 31 = .ok (.ireturn, 1) := by decide +kernel
theorem dL_isOnInBest_32 : decode cL_isOnInBest 32 = .ok (.iconst 0, 1) := by decide +kernel
theorem dL_isOnInBest_33 : decode cL_isOnInBest 33 = .ok (.ireturn, 1) := by decide +kernel
theorem dL_allowedSchedules_0 : decode cL_allowedSchedules 0 = .ok (.aload_n 2, 1) := by decide +kernel
theorem dL_allowedSchedules_1 : decode cL_allowedSchedules 1 = .ok (.iconst 0, 1) := by decide +kernel
theorem dL_allowedSchedules_2 : decode cL_allowedSchedules 2 = .ok (.aload_n 0, 1) := by decide +kernel
theorem dL_allowedSchedules_3 : decode cL_allowedSchedules 3 = .ok (.iload_n 1, 1) := by decide +kernel
theorem dL_allowedSchedules_4 : decode cL_allowedSchedules 4 = .ok (.invokevirtual 95, 3) := by decide +kernel
theorem dL_allowedSchedules_7 : decode cL_allowedSchedules 7 = .ok (.i2l, 1) := by decide +kernel
theorem dL_allowedSchedules_8 : decode cL_allowedSchedules 8 = .ok (.lastore, 1) := by decide +kernel
theorem dL_allowedSchedules_9 : decode cL_allowedSchedules 9 = .ok (.goto 6, 3) := by decide +kernel
theorem dL_allowedSchedules_12 : decode cL_allowedSchedules 12 = .ok (.astore_n 3, 1) := by decide +kernel
theorem dL_allowedSchedules_13 : decode cL_allowedSchedules 13 = .ok (.iconst 1, 1) := by decide +kernel
theorem dL_allowedSchedules_14 : decode cL_allowedSchedules 14 = .ok (.ireturn, 1) := by decide +kernel
theorem dL_allowedSchedules_15 : decode cL_allowedSchedules 15 = .ok (.iconst 0, 1) := by decide +kernel
theorem dL_allowedSchedules_16 : decode cL_allowedSchedules 16 = .ok (.ireturn, 1) := by decide +kernel
theorem dL_servedShare_0 : decode cL_servedShare 0 = .ok (.aload_n 1, 1) := by decide +kernel
theorem dL_servedShare_1 : decode cL_servedShare 1 = .ok (.iconst 0, 1) := by decide +kernel
theorem dL_servedShare_2 : decode cL_servedShare 2 = .ok (.aload_n 0, 1) := by decide +kernel
theorem dL_servedShare_3 : decode cL_servedShare 3 = .ok (.invokevirtual 98, 3) := by decide +kernel
theorem dL_servedShare_6 : decode cL_servedShare 6 = .ok (.f2d, 1) := by decide +kernel
theorem dL_servedShare_7 : decode cL_servedShare 7 = .ok (.dastore, 1) := by decide +kernel
theorem dL_servedShare_8 : decode cL_servedShare 8 = .ok (.goto 6, 3) := by decide +kernel
theorem dL_servedShare_11 : decode cL_servedShare 11 = .ok (.astore_n 2, 1) := by decide +kernel
theorem dL_servedShare_12 : decode cL_servedShare 12 = .ok (.iconst 1, 1) := by decide +kernel
theorem dL_servedShare_13 : decode cL_servedShare 13 = .ok (.ireturn, 1) := by decide +kernel
theorem dL_servedShare_14 : decode cL_servedShare 14 = .ok (.iconst 0, 1) := by decide +kernel
theorem dL_servedShare_15 : decode cL_servedShare 15 = .ok (.ireturn, 1) := by decide +kernel
theorem dL_meanCost_0 : decode cL_meanCost 0 = .ok (.aload_n 1, 1) := by decide +kernel
theorem dL_meanCost_1 : decode cL_meanCost 1 = .ok (.iconst 0, 1) := by decide +kernel
theorem dL_meanCost_2 : decode cL_meanCost 2 = .ok (.aload_n 0, 1) := by decide +kernel
theorem dL_meanCost_3 : decode cL_meanCost 3 = .ok (.invokevirtual 104, 3) := by decide +kernel
theorem dL_meanCost_6 : decode cL_meanCost 6 = .ok (.dastore, 1) := by decide +kernel
theorem dL_meanCost_7 : decode cL_meanCost 7 = .ok (.goto 6, 3) := by decide +kernel
theorem dL_meanCost_10 : decode cL_meanCost 10 = .ok (.astore_n 2, 1) := by decide +kernel
theorem dL_meanCost_11 : decode cL_meanCost 11 = .ok (.iconst 1, 1) := by decide +kernel
theorem dL_meanCost_12 : decode cL_meanCost 12 = .ok (.ireturn, 1) := by decide +kernel
theorem dL_meanCost_13 : decode cL_meanCost 13 = .ok (.iconst 0, 1) := by decide +kernel
theorem dL_meanCost_14 : decode cL_meanCost 14 = .ok (.ireturn, 1) := by decide +kernel
theorem dL_law_0 : decode cL_law 0 = .ok (.new 8, 3) := by decide +kernel
theorem dL_law_3 : decode cL_law 3 = .ok (.dup, 1) := by decide +kernel
theorem dL_law_4 : decode cL_law 4 = .ok (.invokespecial 108, 3) := by decide +kernel
theorem dL_law_7 : decode cL_law 7 = .ok (.astore_n 1, 1) := by decide +kernel
theorem dL_law_8 : decode cL_law 8 = .ok (.new 109, 3) := by decide +kernel
theorem dL_law_11 : decode cL_law 11 = .ok (.dup, 1) := by decide +kernel
theorem dL_law_12 : decode cL_law 12 = .ok (.invokespecial 111, 3) := by decide +kernel
theorem dL_law_15 : decode cL_law 15 = .ok (.astore_n 2, 1) := by decide +kernel
theorem dL_law_16 : decode cL_law 16 = .ok (.iconst 1, 1) := by decide +kernel
theorem dL_law_17 : decode cL_law 17 = .ok (.newarray .long, 2) := by decide +kernel
theorem dL_law_19 : decode cL_law 19 = .ok (.astore_n 3, 1) := by decide +kernel
theorem dL_law_20 : decode cL_law 20 = .ok (.iconst 1, 1) := by decide +kernel
theorem dL_law_21 : decode cL_law 21 = .ok (.newarray .double, 2) := by decide +kernel
theorem dL_law_23 : decode cL_law 23 = .ok (.astore 4, 2) := by decide +kernel
theorem dL_law_25 : decode cL_law 25 = .ok (.iconst 0, 1) := by decide +kernel
theorem dL_law_26 : decode cL_law 26 = .ok (.istore 5, 2) := by decide +kernel
theorem dL_law_28 : decode cL_law 28 = .ok (.iload 5, 2) := by decide +kernel
theorem dL_law_30 : decode cL_law 30 = .ok (.aload_n 0, 1) := by decide +kernel
theorem dL_law_31 : decode cL_law 31 = .ok (.arraylength, 1) := by decide +kernel
theorem dL_law_32 : decode cL_law 32 = .ok (.iconst 5, 1) := by decide +kernel
theorem dL_law_33 : decode cL_law 33 = .ok (.isub, 1) := by decide +kernel
theorem dL_law_34 : decode cL_law 34 = .ok (.if_icmp .gt 1953, 3) := by decide +kernel
theorem dL_law_37 : decode cL_law 37 = .ok (.aload_n 0, 1) := by decide +kernel
theorem dL_law_38 : decode cL_law 38 = .ok (.iload 5, 2) := by decide +kernel
theorem dL_law_40 : decode cL_law 40 = .ok (.iaload, 1) := by decide +kernel
theorem dL_law_41 : decode cL_law 41 = .ok (.bipush 63, 2) := by decide +kernel
theorem dL_law_43 : decode cL_law 43 = .ok (.iand, 1) := by decide +kernel
theorem dL_law_44 : decode cL_law 44 = .ok (.tableswitch 1937 0 35 #[160, 216, 284, 340, 396, 452, 508, 564, 620, 676, 732, 745, 801, 893, 973, 1041, 1097, 1153, 1194, 1250, 1306, 1390, 1453, 1466, 1522, 1578, 1653, 1709, 1723, 1737, 1751, 1765, 1779, 1793, 1806, 1872], 160) := by decide +kernel
theorem dL_law_204 : decode cL_law 204 = .ok (.aload_n 1, 1) := by decide +kernel
theorem dL_law_205 : decode cL_law 205 = .ok (.aload_n 0, 1) := by decide +kernel
theorem dL_law_206 : decode cL_law 206 = .ok (.iload 5, 2) := by decide +kernel
theorem dL_law_208 : decode cL_law 208 = .ok (.iconst 1, 1) := by decide +kernel
theorem dL_law_209 : decode cL_law 209 = .ok (.iadd, 1) := by decide +kernel
theorem dL_law_210 : decode cL_law 210 = .ok (.iaload, 1) := by decide +kernel
theorem dL_law_211 : decode cL_law 211 = .ok (.aload_n 3, 1) := by decide +kernel
theorem dL_law_212 : decode cL_law 212 = .ok (.invokestatic 112, 3) := by decide +kernel
theorem dL_law_215 : decode cL_law 215 = .ok (.istore 6, 2) := by decide +kernel
theorem dL_law_217 : decode cL_law 217 = .ok (.aload_n 2, 1) := by decide +kernel
theorem dL_law_218 : decode cL_law 218 = .ok (.aload_n 0, 1) := by decide +kernel
theorem dL_law_219 : decode cL_law 219 = .ok (.iload 5, 2) := by decide +kernel
theorem dL_law_221 : decode cL_law 221 = .ok (.iconst 1, 1) := by decide +kernel
theorem dL_law_222 : decode cL_law 222 = .ok (.iadd, 1) := by decide +kernel
theorem dL_law_223 : decode cL_law 223 = .ok (.iaload, 1) := by decide +kernel
theorem dL_law_224 : decode cL_law 224 = .ok (.invokevirtual 117, 3) := by decide +kernel
theorem dL_law_227 : decode cL_law 227 = .ok (.istore 7, 2) := by decide +kernel
theorem dL_law_229 : decode cL_law 229 = .ok (.aload_n 2, 1) := by decide +kernel
theorem dL_law_230 : decode cL_law 230 = .ok (.invokevirtual 118, 3) := by decide +kernel
theorem dL_law_233 : decode cL_law 233 = .ok (.iload 6, 2) := by decide +kernel
theorem dL_law_235 : decode cL_law 235 = .ok (.if_icmp .eq 5, 3) := by decide +kernel
theorem dL_law_238 : decode cL_law 238 = .ok (.iconst 0, 1) := by decide +kernel
theorem dL_law_239 : decode cL_law 239 = .ok (.ireturn, 1) := by decide +kernel
theorem dL_law_240 : decode cL_law 240 = .ok (.iload 6, 2) := by decide +kernel
theorem dL_law_242 : decode cL_law 242 = .ok (.ifCond .ne 15, 3) := by decide +kernel
theorem dL_law_245 : decode cL_law 245 = .ok (.aload_n 3, 1) := by decide +kernel
theorem dL_law_246 : decode cL_law 246 = .ok (.iconst 0, 1) := by decide +kernel
theorem dL_law_247 : decode cL_law 247 = .ok (.laload, 1) := by decide +kernel
theorem dL_law_248 : decode cL_law 248 = .ok (.iload 7, 2) := by decide +kernel
theorem dL_law_250 : decode cL_law 250 = .ok (.i2l, 1) := by decide +kernel
theorem dL_law_251 : decode cL_law 251 = .ok (.lcmp, 1) := by decide +kernel
theorem dL_law_252 : decode cL_law 252 = .ok (.ifCond .eq 5, 3) := by decide +kernel
theorem dL_law_255 : decode cL_law 255 = .ok (.iconst 0, 1) := by decide +kernel
theorem dL_law_256 : decode cL_law 256 = .ok (.ireturn, 1) := by decide +kernel
theorem dL_law_257 : decode cL_law 257 = .ok (.goto 1724, 3) := by decide +kernel
theorem dL_law_260 : decode cL_law 260 = .ok (.aload_n 1, 1) := by decide +kernel
theorem dL_law_261 : decode cL_law 261 = .ok (.aload_n 0, 1) := by decide +kernel
theorem dL_law_262 : decode cL_law 262 = .ok (.iload 5, 2) := by decide +kernel
theorem dL_law_264 : decode cL_law 264 = .ok (.iconst 1, 1) := by decide +kernel
theorem dL_law_265 : decode cL_law 265 = .ok (.iadd, 1) := by decide +kernel
theorem dL_law_266 : decode cL_law 266 = .ok (.iaload, 1) := by decide +kernel
theorem dL_law_267 : decode cL_law 267 = .ok (.aload_n 0, 1) := by decide +kernel
theorem dL_law_268 : decode cL_law 268 = .ok (.iload 5, 2) := by decide +kernel
theorem dL_law_270 : decode cL_law 270 = .ok (.iconst 2, 1) := by decide +kernel
theorem dL_law_271 : decode cL_law 271 = .ok (.iadd, 1) := by decide +kernel
theorem dL_law_272 : decode cL_law 272 = .ok (.iaload, 1) := by decide +kernel
theorem dL_law_273 : decode cL_law 273 = .ok (.aload_n 3, 1) := by decide +kernel
theorem dL_law_274 : decode cL_law 274 = .ok (.invokestatic 122, 3) := by decide +kernel
theorem dL_law_277 : decode cL_law 277 = .ok (.istore 6, 2) := by decide +kernel
theorem dL_law_279 : decode cL_law 279 = .ok (.aload_n 2, 1) := by decide +kernel
theorem dL_law_280 : decode cL_law 280 = .ok (.aload_n 0, 1) := by decide +kernel
theorem dL_law_281 : decode cL_law 281 = .ok (.iload 5, 2) := by decide +kernel
theorem dL_law_283 : decode cL_law 283 = .ok (.iconst 1, 1) := by decide +kernel
theorem dL_law_284 : decode cL_law 284 = .ok (.iadd, 1) := by decide +kernel
theorem dL_law_285 : decode cL_law 285 = .ok (.iaload, 1) := by decide +kernel
theorem dL_law_286 : decode cL_law 286 = .ok (.aload_n 0, 1) := by decide +kernel
theorem dL_law_287 : decode cL_law 287 = .ok (.iload 5, 2) := by decide +kernel
theorem dL_law_289 : decode cL_law 289 = .ok (.iconst 2, 1) := by decide +kernel
theorem dL_law_290 : decode cL_law 290 = .ok (.iadd, 1) := by decide +kernel
theorem dL_law_291 : decode cL_law 291 = .ok (.iaload, 1) := by decide +kernel
theorem dL_law_292 : decode cL_law 292 = .ok (.invokevirtual 125, 3) := by decide +kernel
theorem dL_law_295 : decode cL_law 295 = .ok (.istore 7, 2) := by decide +kernel
theorem dL_law_297 : decode cL_law 297 = .ok (.aload_n 2, 1) := by decide +kernel
theorem dL_law_298 : decode cL_law 298 = .ok (.invokevirtual 118, 3) := by decide +kernel
theorem dL_law_301 : decode cL_law 301 = .ok (.iload 6, 2) := by decide +kernel
theorem dL_law_303 : decode cL_law 303 = .ok (.if_icmp .eq 5, 3) := by decide +kernel
theorem dL_law_306 : decode cL_law 306 = .ok (.iconst 0, 1) := by decide +kernel
theorem dL_law_307 : decode cL_law 307 = .ok (.ireturn, 1) := by decide +kernel
theorem dL_law_308 : decode cL_law 308 = .ok (.iload 6, 2) := by decide +kernel
theorem dL_law_310 : decode cL_law 310 = .ok (.ifCond .ne 15, 3) := by decide +kernel
theorem dL_law_313 : decode cL_law 313 = .ok (.aload_n 3, 1) := by decide +kernel
theorem dL_law_314 : decode cL_law 314 = .ok (.iconst 0, 1) := by decide +kernel
theorem dL_law_315 : decode cL_law 315 = .ok (.laload, 1) := by decide +kernel
theorem dL_law_316 : decode cL_law 316 = .ok (.iload 7, 2) := by decide +kernel
theorem dL_law_318 : decode cL_law 318 = .ok (.i2l, 1) := by decide +kernel
theorem dL_law_319 : decode cL_law 319 = .ok (.lcmp, 1) := by decide +kernel
theorem dL_law_320 : decode cL_law 320 = .ok (.ifCond .eq 5, 3) := by decide +kernel
theorem dL_law_323 : decode cL_law 323 = .ok (.iconst 0, 1) := by decide +kernel
theorem dL_law_324 : decode cL_law 324 = .ok (.ireturn, 1) := by decide +kernel
theorem dL_law_325 : decode cL_law 325 = .ok (.goto 1656, 3) := by decide +kernel
theorem dL_law_328 : decode cL_law 328 = .ok (.aload_n 1, 1) := by decide +kernel
theorem dL_law_329 : decode cL_law 329 = .ok (.aload_n 0, 1) := by decide +kernel
theorem dL_law_330 : decode cL_law 330 = .ok (.iload 5, 2) := by decide +kernel
theorem dL_law_332 : decode cL_law 332 = .ok (.iconst 1, 1) := by decide +kernel
theorem dL_law_333 : decode cL_law 333 = .ok (.iadd, 1) := by decide +kernel
theorem dL_law_334 : decode cL_law 334 = .ok (.iaload, 1) := by decide +kernel
theorem dL_law_335 : decode cL_law 335 = .ok (.aload_n 3, 1) := by decide +kernel
theorem dL_law_336 : decode cL_law 336 = .ok (.invokestatic 126, 3) := by decide +kernel
theorem dL_law_339 : decode cL_law 339 = .ok (.istore 6, 2) := by decide +kernel
theorem dL_law_341 : decode cL_law 341 = .ok (.aload_n 2, 1) := by decide +kernel
theorem dL_law_342 : decode cL_law 342 = .ok (.aload_n 0, 1) := by decide +kernel
theorem dL_law_343 : decode cL_law 343 = .ok (.iload 5, 2) := by decide +kernel
theorem dL_law_345 : decode cL_law 345 = .ok (.iconst 1, 1) := by decide +kernel
theorem dL_law_346 : decode cL_law 346 = .ok (.iadd, 1) := by decide +kernel
theorem dL_law_347 : decode cL_law 347 = .ok (.iaload, 1) := by decide +kernel
theorem dL_law_348 : decode cL_law 348 = .ok (.invokevirtual 128, 3) := by decide +kernel
theorem dL_law_351 : decode cL_law 351 = .ok (.istore 7, 2) := by decide +kernel
theorem dL_law_353 : decode cL_law 353 = .ok (.aload_n 2, 1) := by decide +kernel
end
section
theorem dL_law_354 : decode cL_law 354 = .ok (.invokevirtual 118, 3) := by decide +kernel
theorem dL_law_357 : decode cL_law 357 = .ok (.iload 6, 2) := by decide +kernel
theorem dL_law_359 : decode cL_law 359 = .ok (.if_icmp .eq 5, 3) := by decide +kernel
theorem dL_law_362 : decode cL_law 362 = .ok (.iconst 0, 1) := by decide +kernel
theorem dL_law_363 : decode cL_law 363 = .ok (.ireturn, 1) := by decide +kernel
theorem dL_law_364 : decode cL_law 364 = .ok (.iload 6, 2) := by decide +kernel
theorem dL_law_366 : decode cL_law 366 = .ok (.ifCond .ne 15, 3) := by decide +kernel
theorem dL_law_369 : decode cL_law 369 = .ok (.aload_n 3, 1) := by decide +kernel
theorem dL_law_370 : decode cL_law 370 = .ok (.iconst 0, 1) := by decide +kernel
theorem dL_law_371 : decode cL_law 371 = .ok (.laload, 1) := by decide +kernel
theorem dL_law_372 : decode cL_law 372 = .ok (.iload 7, 2) := by decide +kernel
theorem dL_law_374 : decode cL_law 374 = .ok (.i2l, 1) := by decide +kernel
theorem dL_law_375 : decode cL_law 375 = .ok (.lcmp, 1) := by decide +kernel
theorem dL_law_376 : decode cL_law 376 = .ok (.ifCond .eq 5, 3) := by decide +kernel
theorem dL_law_379 : decode cL_law 379 = .ok (.iconst 0, 1) := by decide +kernel
theorem dL_law_380 : decode cL_law 380 = .ok (.ireturn, 1) := by decide +kernel
theorem dL_law_381 : decode cL_law 381 = .ok (.goto 1600, 3) := by decide +kernel
theorem dL_law_384 : decode cL_law 384 = .ok (.aload_n 1, 1) := by decide +kernel
theorem dL_law_385 : decode cL_law 385 = .ok (.aload_n 0, 1) := by decide +kernel
theorem dL_law_386 : decode cL_law 386 = .ok (.iload 5, 2) := by decide +kernel
theorem dL_law_388 : decode cL_law 388 = .ok (.iconst 1, 1) := by decide +kernel
theorem dL_law_389 : decode cL_law 389 = .ok (.iadd, 1) := by decide +kernel
theorem dL_law_390 : decode cL_law 390 = .ok (.iaload, 1) := by decide +kernel
theorem dL_law_391 : decode cL_law 391 = .ok (.aload_n 3, 1) := by decide +kernel
theorem dL_law_392 : decode cL_law 392 = .ok (.invokestatic 129, 3) := by decide +kernel
theorem dL_law_395 : decode cL_law 395 = .ok (.istore 6, 2) := by decide +kernel
theorem dL_law_397 : decode cL_law 397 = .ok (.aload_n 2, 1) := by decide +kernel
theorem dL_law_398 : decode cL_law 398 = .ok (.aload_n 0, 1) := by decide +kernel
theorem dL_law_399 : decode cL_law 399 = .ok (.iload 5, 2) := by decide +kernel
theorem dL_law_401 : decode cL_law 401 = .ok (.iconst 1, 1) := by decide +kernel
theorem dL_law_402 : decode cL_law 402 = .ok (.iadd, 1) := by decide +kernel
theorem dL_law_403 : decode cL_law 403 = .ok (.iaload, 1) := by decide +kernel
theorem dL_law_404 : decode cL_law 404 = .ok (.invokevirtual 131, 3) := by decide +kernel
theorem dL_law_407 : decode cL_law 407 = .ok (.istore 7, 2) := by decide +kernel
theorem dL_law_409 : decode cL_law 409 = .ok (.aload_n 2, 1) := by decide +kernel
theorem dL_law_410 : decode cL_law 410 = .ok (.invokevirtual 118, 3) := by decide +kernel
theorem dL_law_413 : decode cL_law 413 = .ok (.iload 6, 2) := by decide +kernel
theorem dL_law_415 : decode cL_law 415 = .ok (.if_icmp .eq 5, 3) := by decide +kernel
theorem dL_law_418 : decode cL_law 418 = .ok (.iconst 0, 1) := by decide +kernel
theorem dL_law_419 : decode cL_law 419 = .ok (.ireturn, 1) := by decide +kernel
theorem dL_law_420 : decode cL_law 420 = .ok (.iload 6, 2) := by decide +kernel
theorem dL_law_422 : decode cL_law 422 = .ok (.ifCond .ne 15, 3) := by decide +kernel
theorem dL_law_425 : decode cL_law 425 = .ok (.aload_n 3, 1) := by decide +kernel
theorem dL_law_426 : decode cL_law 426 = .ok (.iconst 0, 1) := by decide +kernel
theorem dL_law_427 : decode cL_law 427 = .ok (.laload, 1) := by decide +kernel
theorem dL_law_428 : decode cL_law 428 = .ok (.iload 7, 2) := by decide +kernel
theorem dL_law_430 : decode cL_law 430 = .ok (.i2l, 1) := by decide +kernel
theorem dL_law_431 : decode cL_law 431 = .ok (.lcmp, 1) := by decide +kernel
theorem dL_law_432 : decode cL_law 432 = .ok (.ifCond .eq 5, 3) := by decide +kernel
theorem dL_law_435 : decode cL_law 435 = .ok (.iconst 0, 1) := by decide +kernel
theorem dL_law_436 : decode cL_law 436 = .ok (.ireturn, 1) := by decide +kernel
theorem dL_law_437 : decode cL_law 437 = .ok (.goto 1544, 3) := by decide +kernel
theorem dL_law_440 : decode cL_law 440 = .ok (.aload_n 1, 1) := by decide +kernel
theorem dL_law_441 : decode cL_law 441 = .ok (.aload_n 0, 1) := by decide +kernel
theorem dL_law_442 : decode cL_law 442 = .ok (.iload 5, 2) := by decide +kernel
theorem dL_law_444 : decode cL_law 444 = .ok (.iconst 1, 1) := by decide +kernel
theorem dL_law_445 : decode cL_law 445 = .ok (.iadd, 1) := by decide +kernel
theorem dL_law_446 : decode cL_law 446 = .ok (.iaload, 1) := by decide +kernel
theorem dL_law_447 : decode cL_law 447 = .ok (.aload_n 3, 1) := by decide +kernel
theorem dL_law_448 : decode cL_law 448 = .ok (.invokestatic 132, 3) := by decide +kernel
theorem dL_law_451 : decode cL_law 451 = .ok (.istore 6, 2) := by decide +kernel
theorem dL_law_453 : decode cL_law 453 = .ok (.aload_n 2, 1) := by decide +kernel
theorem dL_law_454 : decode cL_law 454 = .ok (.aload_n 0, 1) := by decide +kernel
theorem dL_law_455 : decode cL_law 455 = .ok (.iload 5, 2) := by decide +kernel
theorem dL_law_457 : decode cL_law 457 = .ok (.iconst 1, 1) := by decide +kernel
theorem dL_law_458 : decode cL_law 458 = .ok (.iadd, 1) := by decide +kernel
theorem dL_law_459 : decode cL_law 459 = .ok (.iaload, 1) := by decide +kernel
theorem dL_law_460 : decode cL_law 460 = .ok (.invokevirtual 134, 3) := by decide +kernel
theorem dL_law_463 : decode cL_law 463 = .ok (.istore 7, 2) := by decide +kernel
theorem dL_law_465 : decode cL_law 465 = .ok (.aload_n 2, 1) := by decide +kernel
theorem dL_law_466 : decode cL_law 466 = .ok (.invokevirtual 118, 3) := by decide +kernel
theorem dL_law_469 : decode cL_law 469 = .ok (.iload 6, 2) := by decide +kernel
theorem dL_law_471 : decode cL_law 471 = .ok (.if_icmp .eq 5, 3) := by decide +kernel
theorem dL_law_474 : decode cL_law 474 = .ok (.iconst 0, 1) := by decide +kernel
theorem dL_law_475 : decode cL_law 475 = .ok (.ireturn, 1) := by decide +kernel
theorem dL_law_476 : decode cL_law 476 = .ok (.iload 6, 2) := by decide +kernel
theorem dL_law_478 : decode cL_law 478 = .ok (.ifCond .ne 15, 3) := by decide +kernel
theorem dL_law_481 : decode cL_law 481 = .ok (.aload_n 3, 1) := by decide +kernel
theorem dL_law_482 : decode cL_law 482 = .ok (.iconst 0, 1) := by decide +kernel
theorem dL_law_483 : decode cL_law 483 = .ok (.laload, 1) := by decide +kernel
theorem dL_law_484 : decode cL_law 484 = .ok (.iload 7, 2) := by decide +kernel
theorem dL_law_486 : decode cL_law 486 = .ok (.i2l, 1) := by decide +kernel
theorem dL_law_487 : decode cL_law 487 = .ok (.lcmp, 1) := by decide +kernel
theorem dL_law_488 : decode cL_law 488 = .ok (.ifCond .eq 5, 3) := by decide +kernel
theorem dL_law_491 : decode cL_law 491 = .ok (.iconst 0, 1) := by decide +kernel
theorem dL_law_492 : decode cL_law 492 = .ok (.ireturn, 1) := by decide +kernel
theorem dL_law_493 : decode cL_law 493 = .ok (.goto 1488, 3) := by decide +kernel
theorem dL_law_496 : decode cL_law 496 = .ok (.aload_n 1, 1) := by decide +kernel
theorem dL_law_497 : decode cL_law 497 = .ok (.aload_n 0, 1) := by decide +kernel
theorem dL_law_498 : decode cL_law 498 = .ok (.iload 5, 2) := by decide +kernel
theorem dL_law_500 : decode cL_law 500 = .ok (.iconst 1, 1) := by decide +kernel
theorem dL_law_501 : decode cL_law 501 = .ok (.iadd, 1) := by decide +kernel
theorem dL_law_502 : decode cL_law 502 = .ok (.iaload, 1) := by decide +kernel
theorem dL_law_503 : decode cL_law 503 = .ok (.aload_n 3, 1) := by decide +kernel
theorem dL_law_504 : decode cL_law 504 = .ok (.invokestatic 135, 3) := by decide +kernel
theorem dL_law_507 : decode cL_law 507 = .ok (.istore 6, 2) := by decide +kernel
theorem dL_law_509 : decode cL_law 509 = .ok (.aload_n 2, 1) := by decide +kernel
theorem dL_law_510 : decode cL_law 510 = .ok (.aload_n 0, 1) := by decide +kernel
theorem dL_law_511 : decode cL_law 511 = .ok (.iload 5, 2) := by decide +kernel
theorem dL_law_513 : decode cL_law 513 = .ok (.iconst 1, 1) := by decide +kernel
theorem dL_law_514 : decode cL_law 514 = .ok (.iadd, 1) := by decide +kernel
theorem dL_law_515 : decode cL_law 515 = .ok (.iaload, 1) := by decide +kernel
theorem dL_law_516 : decode cL_law 516 = .ok (.invokevirtual 137, 3) := by decide +kernel
theorem dL_law_519 : decode cL_law 519 = .ok (.istore 7, 2) := by decide +kernel
theorem dL_law_521 : decode cL_law 521 = .ok (.aload_n 2, 1) := by decide +kernel
theorem dL_law_522 : decode cL_law 522 = .ok (.invokevirtual 118, 3) := by decide +kernel
theorem dL_law_525 : decode cL_law 525 = .ok (.iload 6, 2) := by decide +kernel
theorem dL_law_527 : decode cL_law 527 = .ok (.if_icmp .eq 5, 3) := by decide +kernel
theorem dL_law_530 : decode cL_law 530 = .ok (.iconst 0, 1) := by decide +kernel
theorem dL_law_531 : decode cL_law 531 = .ok (.ireturn, 1) := by decide +kernel
theorem dL_law_532 : decode cL_law 532 = .ok (.iload 6, 2) := by decide +kernel
theorem dL_law_534 : decode cL_law 534 = .ok (.ifCond .ne 15, 3) := by decide +kernel
theorem dL_law_537 : decode cL_law 537 = .ok (.aload_n 3, 1) := by decide +kernel
theorem dL_law_538 : decode cL_law 538 = .ok (.iconst 0, 1) := by decide +kernel
theorem dL_law_539 : decode cL_law 539 = .ok (.laload, 1) := by decide +kernel
theorem dL_law_540 : decode cL_law 540 = .ok (.iload 7, 2) := by decide +kernel
theorem dL_law_542 : decode cL_law 542 = .ok (.i2l, 1) := by decide +kernel
theorem dL_law_543 : decode cL_law 543 = .ok (.lcmp, 1) := by decide +kernel
theorem dL_law_544 : decode cL_law 544 = .ok (.ifCond .eq 5, 3) := by decide +kernel
theorem dL_law_547 : decode cL_law 547 = .ok (.iconst 0, 1) := by decide +kernel
theorem dL_law_548 : decode cL_law 548 = .ok (.ireturn, 1) := by decide +kernel
theorem dL_law_549 : decode cL_law 549 = .ok (.goto 1432, 3) := by decide +kernel
theorem dL_law_552 : decode cL_law 552 = .ok (.aload_n 1, 1) := by decide +kernel
theorem dL_law_553 : decode cL_law 553 = .ok (.aload_n 0, 1) := by decide +kernel
theorem dL_law_554 : decode cL_law 554 = .ok (.iload 5, 2) := by decide +kernel
theorem dL_law_556 : decode cL_law 556 = .ok (.iconst 1, 1) := by decide +kernel
theorem dL_law_557 : decode cL_law 557 = .ok (.iadd, 1) := by decide +kernel
theorem dL_law_558 : decode cL_law 558 = .ok (.iaload, 1) := by decide +kernel
theorem dL_law_559 : decode cL_law 559 = .ok (.aload_n 3, 1) := by decide +kernel
theorem dL_law_560 : decode cL_law 560 = .ok (.invokestatic 138, 3) := by decide +kernel
theorem dL_law_563 : decode cL_law 563 = .ok (.istore 6, 2) := by decide +kernel
theorem dL_law_565 : decode cL_law 565 = .ok (.aload_n 2, 1) := by decide +kernel
theorem dL_law_566 : decode cL_law 566 = .ok (.aload_n 0, 1) := by decide +kernel
theorem dL_law_567 : decode cL_law 567 = .ok (.iload 5, 2) := by decide +kernel
theorem dL_law_569 : decode cL_law 569 = .ok (.iconst 1, 1) := by decide +kernel
theorem dL_law_570 : decode cL_law 570 = .ok (.iadd, 1) := by decide +kernel
theorem dL_law_571 : decode cL_law 571 = .ok (.iaload, 1) := by decide +kernel
theorem dL_law_572 : decode cL_law 572 = .ok (.invokevirtual 140, 3) := by decide +kernel
theorem dL_law_575 : decode cL_law 575 = .ok (.istore 7, 2) := by decide +kernel
theorem dL_law_577 : decode cL_law 577 = .ok (.aload_n 2, 1) := by decide +kernel
theorem dL_law_578 : decode cL_law 578 = .ok (.invokevirtual 118, 3) := by decide +kernel
theorem dL_law_581 : decode cL_law 581 = .ok (.iload 6, 2) := by decide +kernel
theorem dL_law_583 : decode cL_law 583 = .ok (.if_icmp .eq 5, 3) := by decide +kernel
theorem dL_law_586 : decode cL_law 586 = .ok (.iconst 0, 1) := by decide +kernel
theorem dL_law_587 : decode cL_law 587 = .ok (.ireturn, 1) := by decide +kernel
theorem dL_law_588 : decode cL_law 588 = .ok (.iload 6, 2) := by decide +kernel
theorem dL_law_590 : decode cL_law 590 = .ok (.ifCond .ne 15, 3) := by decide +kernel
theorem dL_law_593 : decode cL_law 593 = .ok (.aload_n 3, 1) := by decide +kernel
theorem dL_law_594 : decode cL_law 594 = .ok (.iconst 0, 1) := by decide +kernel
theorem dL_law_595 : decode cL_law 595 = .ok (.laload, 1) := by decide +kernel
theorem dL_law_596 : decode cL_law 596 = .ok (.iload 7, 2) := by decide +kernel
theorem dL_law_598 : decode cL_law 598 = .ok (.i2l, 1) := by decide +kernel
theorem dL_law_599 : decode cL_law 599 = .ok (.lcmp, 1) := by decide +kernel
theorem dL_law_600 : decode cL_law 600 = .ok (.ifCond .eq 5, 3) := by decide +kernel
theorem dL_law_603 : decode cL_law 603 = .ok (.iconst 0, 1) := by decide +kernel
theorem dL_law_604 : decode cL_law 604 = .ok (.ireturn, 1) := by decide +kernel
theorem dL_law_605 : decode cL_law 605 = .ok (.goto 1376, 3) := by decide +kernel
theorem dL_law_608 : decode cL_law 608 = .ok (.aload_n 1, 1) := by decide +kernel
theorem dL_law_609 : decode cL_law 609 = .ok (.aload_n 0, 1) := by decide +kernel
theorem dL_law_610 : decode cL_law 610 = .ok (.iload 5, 2) := by decide +kernel
theorem dL_law_612 : decode cL_law 612 = .ok (.iconst 1, 1) := by decide +kernel
theorem dL_law_613 : decode cL_law 613 = .ok (.iadd, 1) := by decide +kernel
theorem dL_law_614 : decode cL_law 614 = .ok (.iaload, 1) := by decide +kernel
theorem dL_law_615 : decode cL_law 615 = .ok (.aload_n 3, 1) := by decide +kernel
theorem dL_law_616 : decode cL_law 616 = .ok (.invokestatic 141, 3) := by decide +kernel
theorem dL_law_619 : decode cL_law 619 = .ok (.istore 6, 2) := by decide +kernel
theorem dL_law_621 : decode cL_law 621 = .ok (.aload_n 2, 1) := by decide +kernel
theorem dL_law_622 : decode cL_law 622 = .ok (.aload_n 0, 1) := by decide +kernel
theorem dL_law_623 : decode cL_law 623 = .ok (.iload 5, 2) := by decide +kernel
theorem dL_law_625 : decode cL_law 625 = .ok (.iconst 1, 1) := by decide +kernel
theorem dL_law_626 : decode cL_law 626 = .ok (.iadd, 1) := by decide +kernel
theorem dL_law_627 : decode cL_law 627 = .ok (.iaload, 1) := by decide +kernel
theorem dL_law_628 : decode cL_law 628 = .ok (.invokevirtual 143, 3) := by decide +kernel
theorem dL_law_631 : decode cL_law 631 = .ok (.istore 7, 2) := by decide +kernel
theorem dL_law_633 : decode cL_law 633 = .ok (.aload_n 2, 1) := by decide +kernel
theorem dL_law_634 : decode cL_law 634 = .ok (.invokevirtual 118, 3) := by decide +kernel
theorem dL_law_637 : decode cL_law 637 = .ok (.iload 6, 2) := by decide +kernel
theorem dL_law_639 : decode cL_law 639 = .ok (.if_icmp .eq 5, 3) := by decide +kernel
theorem dL_law_642 : decode cL_law 642 = .ok (.iconst 0, 1) := by decide +kernel
theorem dL_law_643 : decode cL_law 643 = .ok (.ireturn, 1) := by decide +kernel
theorem dL_law_644 : decode cL_law 644 = .ok (.iload 6, 2) := by decide +kernel
theorem dL_law_646 : decode cL_law 646 = .ok (.ifCond .ne 15, 3) := by decide +kernel
theorem dL_law_649 : decode cL_law 649 = .ok (.aload_n 3, 1) := by decide +kernel
theorem dL_law_650 : decode cL_law 650 = .ok (.iconst 0, 1) := by decide +kernel
theorem dL_law_651 : decode cL_law 651 = .ok (.laload, 1) := by decide +kernel
theorem dL_law_652 : decode cL_law 652 = .ok (.iload 7, 2) := by decide +kernel
theorem dL_law_654 : decode cL_law 654 = .ok (.i2l, 1) := by decide +kernel
theorem dL_law_655 : decode cL_law 655 = .ok (.lcmp, 1) := by decide +kernel
theorem dL_law_656 : decode cL_law 656 = .ok (.ifCond .eq 5, 3) := by decide +kernel
theorem dL_law_659 : decode cL_law 659 = .ok (.iconst 0, 1) := by decide +kernel
theorem dL_law_660 : decode cL_law 660 = .ok (.ireturn, 1) := by decide +kernel
theorem dL_law_661 : decode cL_law 661 = .ok (.goto 1320, 3) := by decide +kernel
theorem dL_law_664 : decode cL_law 664 = .ok (.aload_n 1, 1) := by decide +kernel
theorem dL_law_665 : decode cL_law 665 = .ok (.aload_n 0, 1) := by decide +kernel
theorem dL_law_666 : decode cL_law 666 = .ok (.iload 5, 2) := by decide +kernel
theorem dL_law_668 : decode cL_law 668 = .ok (.iconst 1, 1) := by decide +kernel
theorem dL_law_669 : decode cL_law 669 = .ok (.iadd, 1) := by decide +kernel
theorem dL_law_670 : decode cL_law 670 = .ok (.iaload, 1) := by decide +kernel
theorem dL_law_671 : decode cL_law 671 = .ok (.aload_n 3, 1) := by decide +kernel
theorem dL_law_672 : decode cL_law 672 = .ok (.invokestatic 144, 3) := by decide +kernel
theorem dL_law_675 : decode cL_law 675 = .ok (.istore 6, 2) := by decide +kernel
theorem dL_law_677 : decode cL_law 677 = .ok (.aload_n 2, 1) := by decide +kernel
theorem dL_law_678 : decode cL_law 678 = .ok (.aload_n 0, 1) := by decide +kernel
theorem dL_law_679 : decode cL_law 679 = .ok (.iload 5, 2) := by decide +kernel
theorem dL_law_681 : decode cL_law 681 = .ok (.iconst 1, 1) := by decide +kernel
theorem dL_law_682 : decode cL_law 682 = .ok (.iadd, 1) := by decide +kernel
theorem dL_law_683 : decode cL_law 683 = .ok (.iaload, 1) := by decide +kernel
theorem dL_law_684 : decode cL_law 684 = .ok (.invokevirtual 146, 3) := by decide +kernel
theorem dL_law_687 : decode cL_law 687 = .ok (.istore 7, 2) := by decide +kernel
theorem dL_law_689 : decode cL_law 689 = .ok (.aload_n 2, 1) := by decide +kernel
theorem dL_law_690 : decode cL_law 690 = .ok (.invokevirtual 118, 3) := by decide +kernel
theorem dL_law_693 : decode cL_law 693 = .ok (.iload 6, 2) := by decide +kernel
theorem dL_law_695 : decode cL_law 695 = .ok (.if_icmp .eq 5, 3) := by decide +kernel
theorem dL_law_698 : decode cL_law 698 = .ok (.iconst 0, 1) := by decide +kernel
theorem dL_law_699 : decode cL_law 699 = .ok (.ireturn, 1) := by decide +kernel
theorem dL_law_700 : decode cL_law 700 = .ok (.iload 6, 2) := by decide +kernel
theorem dL_law_702 : decode cL_law 702 = .ok (.ifCond .ne 15, 3) := by decide +kernel
theorem dL_law_705 : decode cL_law 705 = .ok (.aload_n 3, 1) := by decide +kernel
theorem dL_law_706 : decode cL_law 706 = .ok (.iconst 0, 1) := by decide +kernel
theorem dL_law_707 : decode cL_law 707 = .ok (.laload, 1) := by decide +kernel
theorem dL_law_708 : decode cL_law 708 = .ok (.iload 7, 2) := by decide +kernel
theorem dL_law_710 : decode cL_law 710 = .ok (.i2l, 1) := by decide +kernel
theorem dL_law_711 : decode cL_law 711 = .ok (.lcmp, 1) := by decide +kernel
theorem dL_law_712 : decode cL_law 712 = .ok (.ifCond .eq 5, 3) := by decide +kernel
theorem dL_law_715 : decode cL_law 715 = .ok (.iconst 0, 1) := by decide +kernel
theorem dL_law_716 : decode cL_law 716 = .ok (.ireturn, 1) := by decide +kernel
theorem dL_law_717 : decode cL_law 717 = .ok (.goto 1264, 3) := by decide +kernel
theorem dL_law_720 : decode cL_law 720 = .ok (.aload_n 1, 1) := by decide +kernel
theorem dL_law_721 : decode cL_law 721 = .ok (.aload_n 0, 1) := by decide +kernel
theorem dL_law_722 : decode cL_law 722 = .ok (.iload 5, 2) := by decide +kernel
theorem dL_law_724 : decode cL_law 724 = .ok (.iconst 1, 1) := by decide +kernel
theorem dL_law_725 : decode cL_law 725 = .ok (.iadd, 1) := by decide +kernel
theorem dL_law_726 : decode cL_law 726 = .ok (.iaload, 1) := by decide +kernel
theorem dL_law_727 : decode cL_law 727 = .ok (.aload_n 3, 1) := by decide +kernel
theorem dL_law_728 : decode cL_law 728 = .ok (.invokestatic 147, 3) := by decide +kernel
theorem dL_law_731 : decode cL_law 731 = .ok (.istore 6, 2) := by decide +kernel
theorem dL_law_733 : decode cL_law 733 = .ok (.aload_n 2, 1) := by decide +kernel
theorem dL_law_734 : decode cL_law 734 = .ok (.aload_n 0, 1) := by decide +kernel
theorem dL_law_735 : decode cL_law 735 = .ok (.iload 5, 2) := by decide +kernel
theorem dL_law_737 : decode cL_law 737 = .ok (.iconst 1, 1) := by decide +kernel
theorem dL_law_738 : decode cL_law 738 = .ok (.iadd, 1) := by decide +kernel
theorem dL_law_739 : decode cL_law 739 = .ok (.iaload, 1) := by decide +kernel
theorem dL_law_740 : decode cL_law 740 = .ok (.invokevirtual 149, 3) := by decide +kernel
theorem dL_law_743 : decode cL_law 743 = .ok (.istore 7, 2) := by decide +kernel
theorem dL_law_745 : decode cL_law 745 = .ok (.aload_n 2, 1) := by decide +kernel
theorem dL_law_746 : decode cL_law 746 = .ok (.invokevirtual 118, 3) := by decide +kernel
theorem dL_law_749 : decode cL_law 749 = .ok (.iload 6, 2) := by decide +kernel
theorem dL_law_751 : decode cL_law 751 = .ok (.if_icmp .eq 5, 3) := by decide +kernel
theorem dL_law_754 : decode cL_law 754 = .ok (.iconst 0, 1) := by decide +kernel
theorem dL_law_755 : decode cL_law 755 = .ok (.ireturn, 1) := by decide +kernel
theorem dL_law_756 : decode cL_law 756 = .ok (.iload 6, 2) := by decide +kernel
theorem dL_law_758 : decode cL_law 758 = .ok (.ifCond .ne 15, 3) := by decide +kernel
theorem dL_law_761 : decode cL_law 761 = .ok (.aload_n 3, 1) := by decide +kernel
theorem dL_law_762 : decode cL_law 762 = .ok (.iconst 0, 1) := by decide +kernel
theorem dL_law_763 : decode cL_law 763 = .ok (.laload, 1) := by decide +kernel
theorem dL_law_764 : decode cL_law 764 = .ok (.iload 7, 2) := by decide +kernel
theorem dL_law_766 : decode cL_law 766 = .ok (.i2l, 1) := by decide +kernel
theorem dL_law_767 : decode cL_law 767 = .ok (.lcmp, 1) := by decide +kernel
theorem dL_law_768 : decode cL_law 768 = .ok (.ifCond .eq 5, 3) := by decide +kernel
theorem dL_law_771 : decode cL_law 771 = .ok (.iconst 0, 1) := by decide +kernel
theorem dL_law_772 : decode cL_law 772 = .ok (.ireturn, 1) := by decide +kernel
theorem dL_law_773 : decode cL_law 773 = .ok (.goto 1208, 3) := by decide +kernel
theorem dL_law_776 : decode cL_law 776 = .ok (.aload_n 1, 1) := by decide +kernel
theorem dL_law_777 : decode cL_law 777 = .ok (.invokevirtual 150, 3) := by decide +kernel
theorem dL_law_780 : decode cL_law 780 = .ok (.aload_n 2, 1) := by decide +kernel
theorem dL_law_781 : decode cL_law 781 = .ok (.invokevirtual 153, 3) := by decide +kernel
theorem dL_law_784 : decode cL_law 784 = .ok (.if_icmp .eq 1197, 3) := by decide +kernel
theorem dL_law_787 : decode cL_law 787 = .ok (.iconst 0, 1) := by decide +kernel
theorem dL_law_788 : decode cL_law 788 = .ok (.ireturn, 1) := by decide +kernel
theorem dL_law_789 : decode cL_law 789 = .ok (.aload_n 1, 1) := by decide +kernel
theorem dL_law_790 : decode cL_law 790 = .ok (.aload_n 0, 1) := by decide +kernel
theorem dL_law_791 : decode cL_law 791 = .ok (.iload 5, 2) := by decide +kernel
theorem dL_law_793 : decode cL_law 793 = .ok (.iconst 1, 1) := by decide +kernel
theorem dL_law_794 : decode cL_law 794 = .ok (.iadd, 1) := by decide +kernel
theorem dL_law_795 : decode cL_law 795 = .ok (.iaload, 1) := by decide +kernel
theorem dL_law_796 : decode cL_law 796 = .ok (.aload_n 3, 1) := by decide +kernel
theorem dL_law_797 : decode cL_law 797 = .ok (.invokestatic 154, 3) := by decide +kernel
theorem dL_law_800 : decode cL_law 800 = .ok (.istore 6, 2) := by decide +kernel
theorem dL_law_802 : decode cL_law 802 = .ok (.aload_n 2, 1) := by decide +kernel
theorem dL_law_803 : decode cL_law 803 = .ok (.aload_n 0, 1) := by decide +kernel
theorem dL_law_804 : decode cL_law 804 = .ok (.iload 5, 2) := by decide +kernel
theorem dL_law_806 : decode cL_law 806 = .ok (.iconst 1, 1) := by decide +kernel
theorem dL_law_807 : decode cL_law 807 = .ok (.iadd, 1) := by decide +kernel
theorem dL_law_808 : decode cL_law 808 = .ok (.iaload, 1) := by decide +kernel
theorem dL_law_809 : decode cL_law 809 = .ok (.invokevirtual 156, 3) := by decide +kernel
theorem dL_law_812 : decode cL_law 812 = .ok (.istore 7, 2) := by decide +kernel
theorem dL_law_814 : decode cL_law 814 = .ok (.aload_n 2, 1) := by decide +kernel
theorem dL_law_815 : decode cL_law 815 = .ok (.invokevirtual 118, 3) := by decide +kernel
theorem dL_law_818 : decode cL_law 818 = .ok (.iload 6, 2) := by decide +kernel
theorem dL_law_820 : decode cL_law 820 = .ok (.if_icmp .eq 5, 3) := by decide +kernel
theorem dL_law_823 : decode cL_law 823 = .ok (.iconst 0, 1) := by decide +kernel
theorem dL_law_824 : decode cL_law 824 = .ok (.ireturn, 1) := by decide +kernel
theorem dL_law_825 : decode cL_law 825 = .ok (.iload 6, 2) := by decide +kernel
theorem dL_law_827 : decode cL_law 827 = .ok (.ifCond .ne 15, 3) := by decide +kernel
theorem dL_law_830 : decode cL_law 830 = .ok (.aload_n 3, 1) := by decide +kernel
theorem dL_law_831 : decode cL_law 831 = .ok (.iconst 0, 1) := by decide +kernel
theorem dL_law_832 : decode cL_law 832 = .ok (.laload, 1) := by decide +kernel
theorem dL_law_833 : decode cL_law 833 = .ok (.iload 7, 2) := by decide +kernel
theorem dL_law_835 : decode cL_law 835 = .ok (.i2l, 1) := by decide +kernel
theorem dL_law_836 : decode cL_law 836 = .ok (.lcmp, 1) := by decide +kernel
theorem dL_law_837 : decode cL_law 837 = .ok (.ifCond .eq 5, 3) := by decide +kernel
theorem dL_law_840 : decode cL_law 840 = .ok (.iconst 0, 1) := by decide +kernel
theorem dL_law_841 : decode cL_law 841 = .ok (.ireturn, 1) := by decide +kernel
theorem dL_law_842 : decode cL_law 842 = .ok (.goto 1139, 3) := by decide +kernel
theorem dL_law_845 : decode cL_law 845 = .ok (.aload_n 1, 1) := by decide +kernel
theorem dL_law_846 : decode cL_law 846 = .ok (.aload_n 0, 1) := by decide +kernel
theorem dL_law_847 : decode cL_law 847 = .ok (.iload 5, 2) := by decide +kernel
theorem dL_law_849 : decode cL_law 849 = .ok (.iconst 1, 1) := by decide +kernel
theorem dL_law_850 : decode cL_law 850 = .ok (.iadd, 1) := by decide +kernel
theorem dL_law_851 : decode cL_law 851 = .ok (.iaload, 1) := by decide +kernel
theorem dL_law_852 : decode cL_law 852 = .ok (.aload_n 0, 1) := by decide +kernel
theorem dL_law_853 : decode cL_law 853 = .ok (.iload 5, 2) := by decide +kernel
theorem dL_law_855 : decode cL_law 855 = .ok (.iconst 2, 1) := by decide +kernel
theorem dL_law_856 : decode cL_law 856 = .ok (.iadd, 1) := by decide +kernel
theorem dL_law_857 : decode cL_law 857 = .ok (.iaload, 1) := by decide +kernel
theorem dL_law_858 : decode cL_law 858 = .ok (.aload_n 0, 1) := by decide +kernel
theorem dL_law_859 : decode cL_law 859 = .ok (.iload 5, 2) := by decide +kernel
theorem dL_law_861 : decode cL_law 861 = .ok (.iconst 3, 1) := by decide +kernel
theorem dL_law_862 : decode cL_law 862 = .ok (.iadd, 1) := by decide +kernel
theorem dL_law_863 : decode cL_law 863 = .ok (.iaload, 1) := by decide +kernel
theorem dL_law_864 : decode cL_law 864 = .ok (.aload_n 0, 1) := by decide +kernel
theorem dL_law_865 : decode cL_law 865 = .ok (.iload 5, 2) := by decide +kernel
theorem dL_law_867 : decode cL_law 867 = .ok (.iconst 4, 1) := by decide +kernel
theorem dL_law_868 : decode cL_law 868 = .ok (.iadd, 1) := by decide +kernel
theorem dL_law_869 : decode cL_law 869 = .ok (.iaload, 1) := by decide +kernel
theorem dL_law_870 : decode cL_law 870 = .ok (.aload_n 3, 1) := by decide +kernel
theorem dL_law_871 : decode cL_law 871 = .ok (.invokestatic 157, 3) := by decide +kernel
theorem dL_law_874 : decode cL_law 874 = .ok (.istore 6, 2) := by decide +kernel
theorem dL_law_876 : decode cL_law 876 = .ok (.aload_n 2, 1) := by decide +kernel
theorem dL_law_877 : decode cL_law 877 = .ok (.aload_n 0, 1) := by decide +kernel
theorem dL_law_878 : decode cL_law 878 = .ok (.iload 5, 2) := by decide +kernel
theorem dL_law_880 : decode cL_law 880 = .ok (.iconst 1, 1) := by decide +kernel
theorem dL_law_881 : decode cL_law 881 = .ok (.iadd, 1) := by decide +kernel
theorem dL_law_882 : decode cL_law 882 = .ok (.iaload, 1) := by decide +kernel
theorem dL_law_883 : decode cL_law 883 = .ok (.aload_n 0, 1) := by decide +kernel
theorem dL_law_884 : decode cL_law 884 = .ok (.iload 5, 2) := by decide +kernel
theorem dL_law_886 : decode cL_law 886 = .ok (.iconst 2, 1) := by decide +kernel
theorem dL_law_887 : decode cL_law 887 = .ok (.iadd, 1) := by decide +kernel
theorem dL_law_888 : decode cL_law 888 = .ok (.iaload, 1) := by decide +kernel
theorem dL_law_889 : decode cL_law 889 = .ok (.aload_n 0, 1) := by decide +kernel
theorem dL_law_890 : decode cL_law 890 = .ok (.iload 5, 2) := by decide +kernel
theorem dL_law_892 : decode cL_law 892 = .ok (.iconst 3, 1) := by decide +kernel
theorem dL_law_893 : decode cL_law 893 = .ok (.iadd, 1) := by decide +kernel
theorem dL_law_894 : decode cL_law 894 = .ok (.iaload, 1) := by decide +kernel
theorem dL_law_895 : decode cL_law 895 = .ok (.aload_n 0, 1) := by decide +kernel
theorem dL_law_896 : decode cL_law 896 = .ok (.iload 5, 2) := by decide +kernel
theorem dL_law_898 : decode cL_law 898 = .ok (.iconst 4, 1) := by decide +kernel
theorem dL_law_899 : decode cL_law 899 = .ok (.iadd, 1) := by decide +kernel
theorem dL_law_900 : decode cL_law 900 = .ok (.iaload, 1) := by decide +kernel
theorem dL_law_901 : decode cL_law 901 = .ok (.invokevirtual 160, 3) := by decide +kernel
theorem dL_law_904 : decode cL_law 904 = .ok (.istore 7, 2) := by decide +kernel
theorem dL_law_906 : decode cL_law 906 = .ok (.aload_n 2, 1) := by decide +kernel
theorem dL_law_907 : decode cL_law 907 = .ok (.invokevirtual 118, 3) := by decide +kernel
theorem dL_law_910 : decode cL_law 910 = .ok (.iload 6, 2) := by decide +kernel
theorem dL_law_912 : decode cL_law 912 = .ok (.if_icmp .eq 5, 3) := by decide +kernel
theorem dL_law_915 : decode cL_law 915 = .ok (.iconst 0, 1) := by decide +kernel
theorem dL_law_916 : decode cL_law 916 = .ok (.ireturn, 1) := by decide +kernel
theorem dL_law_917 : decode cL_law 917 = .ok (.iload 6, 2) := by decide +kernel
theorem dL_law_919 : decode cL_law 919 = .ok (.ifCond .ne 15, 3) := by decide +kernel
theorem dL_law_922 : decode cL_law 922 = .ok (.aload_n 3, 1) := by decide +kernel
theorem dL_law_923 : decode cL_law 923 = .ok (.iconst 0, 1) := by decide +kernel
theorem dL_law_924 : decode cL_law 924 = .ok (.laload, 1) := by decide +kernel
theorem dL_law_925 : decode cL_law 925 = .ok (.iload 7, 2) := by decide +kernel
theorem dL_law_927 : decode cL_law 927 = .ok (.i2l, 1) := by decide +kernel
theorem dL_law_928 : decode cL_law 928 = .ok (.lcmp, 1) := by decide +kernel
theorem dL_law_929 : decode cL_law 929 = .ok (.ifCond .eq 5, 3) := by decide +kernel
theorem dL_law_932 : decode cL_law 932 = .ok (.iconst 0, 1) := by decide +kernel
theorem dL_law_933 : decode cL_law 933 = .ok (.ireturn, 1) := by decide +kernel
theorem dL_law_934 : decode cL_law 934 = .ok (.goto 1047, 3) := by decide +kernel
theorem dL_law_937 : decode cL_law 937 = .ok (.aload_n 1, 1) := by decide +kernel
theorem dL_law_938 : decode cL_law 938 = .ok (.aload_n 0, 1) := by decide +kernel
theorem dL_law_939 : decode cL_law 939 = .ok (.iload 5, 2) := by decide +kernel
theorem dL_law_941 : decode cL_law 941 = .ok (.iconst 1, 1) := by decide +kernel
theorem dL_law_942 : decode cL_law 942 = .ok (.iadd, 1) := by decide +kernel
theorem dL_law_943 : decode cL_law 943 = .ok (.iaload, 1) := by decide +kernel
theorem dL_law_944 : decode cL_law 944 = .ok (.aload_n 0, 1) := by decide +kernel
theorem dL_law_945 : decode cL_law 945 = .ok (.iload 5, 2) := by decide +kernel
theorem dL_law_947 : decode cL_law 947 = .ok (.iconst 2, 1) := by decide +kernel
theorem dL_law_948 : decode cL_law 948 = .ok (.iadd, 1) := by decide +kernel
theorem dL_law_949 : decode cL_law 949 = .ok (.iaload, 1) := by decide +kernel
theorem dL_law_950 : decode cL_law 950 = .ok (.aload_n 0, 1) := by decide +kernel
theorem dL_law_951 : decode cL_law 951 = .ok (.iload 5, 2) := by decide +kernel
theorem dL_law_953 : decode cL_law 953 = .ok (.iconst 3, 1) := by decide +kernel
theorem dL_law_954 : decode cL_law 954 = .ok (.iadd, 1) := by decide +kernel
theorem dL_law_955 : decode cL_law 955 = .ok (.iaload, 1) := by decide +kernel
theorem dL_law_956 : decode cL_law 956 = .ok (.aload_n 3, 1) := by decide +kernel
theorem dL_law_957 : decode cL_law 957 = .ok (.invokestatic 161, 3) := by decide +kernel
theorem dL_law_960 : decode cL_law 960 = .ok (.istore 6, 2) := by decide +kernel
theorem dL_law_962 : decode cL_law 962 = .ok (.aload_n 2, 1) := by decide +kernel
theorem dL_law_963 : decode cL_law 963 = .ok (.aload_n 0, 1) := by decide +kernel
theorem dL_law_964 : decode cL_law 964 = .ok (.iload 5, 2) := by decide +kernel
theorem dL_law_966 : decode cL_law 966 = .ok (.iconst 1, 1) := by decide +kernel
theorem dL_law_967 : decode cL_law 967 = .ok (.iadd, 1) := by decide +kernel
theorem dL_law_968 : decode cL_law 968 = .ok (.iaload, 1) := by decide +kernel
theorem dL_law_969 : decode cL_law 969 = .ok (.aload_n 0, 1) := by decide +kernel
theorem dL_law_970 : decode cL_law 970 = .ok (.iload 5, 2) := by decide +kernel
theorem dL_law_972 : decode cL_law 972 = .ok (.iconst 2, 1) := by decide +kernel
theorem dL_law_973 : decode cL_law 973 = .ok (.iadd, 1) := by decide +kernel
theorem dL_law_974 : decode cL_law 974 = .ok (.iaload, 1) := by decide +kernel
theorem dL_law_975 : decode cL_law 975 = .ok (.aload_n 0, 1) := by decide +kernel
theorem dL_law_976 : decode cL_law 976 = .ok (.iload 5, 2) := by decide +kernel
theorem dL_law_978 : decode cL_law 978 = .ok (.iconst 3, 1) := by decide +kernel
theorem dL_law_979 : decode cL_law 979 = .ok (.iadd, 1) := by decide +kernel
theorem dL_law_980 : decode cL_law 980 = .ok (.iaload, 1) := by decide +kernel
theorem dL_law_981 : decode cL_law 981 = .ok (.invokevirtual 164, 3) := by decide +kernel
theorem dL_law_984 : decode cL_law 984 = .ok (.istore 7, 2) := by decide +kernel
theorem dL_law_986 : decode cL_law 986 = .ok (.aload_n 2, 1) := by decide +kernel
theorem dL_law_987 : decode cL_law 987 = .ok (.invokevirtual 118, 3) := by decide +kernel
theorem dL_law_990 : decode cL_law 990 = .ok (.iload 6, 2) := by decide +kernel
theorem dL_law_992 : decode cL_law 992 = .ok (.if_icmp .eq 5, 3) := by decide +kernel
theorem dL_law_995 : decode cL_law 995 = .ok (.iconst 0, 1) := by decide +kernel
theorem dL_law_996 : decode cL_law 996 = .ok (.ireturn, 1) := by decide +kernel
theorem dL_law_997 : decode cL_law 997 = .ok (.iload 6, 2) := by decide +kernel
theorem dL_law_999 : decode cL_law 999 = .ok (.ifCond .ne 15, 3) := by decide +kernel
theorem dL_law_1002 : decode cL_law 1002 = .ok (.aload_n 3, 1) := by decide +kernel
theorem dL_law_1003 : decode cL_law 1003 = .ok (.iconst 0, 1) := by decide +kernel
theorem dL_law_1004 : decode cL_law 1004 = .ok (.laload, 1) := by decide +kernel
theorem dL_law_1005 : decode cL_law 1005 = .ok (.iload 7, 2) := by decide +kernel
theorem dL_law_1007 : decode cL_law 1007 = .ok (.i2l, 1) := by decide +kernel
theorem dL_law_1008 : decode cL_law 1008 = .ok (.lcmp, 1) := by decide +kernel
theorem dL_law_1009 : decode cL_law 1009 = .ok (.ifCond .eq 5, 3) := by decide +kernel
theorem dL_law_1012 : decode cL_law 1012 = .ok (.iconst 0, 1) := by decide +kernel
theorem dL_law_1013 : decode cL_law 1013 = .ok (.ireturn, 1) := by decide +kernel
theorem dL_law_1014 : decode cL_law 1014 = .ok (.goto 967, 3) := by decide +kernel
theorem dL_law_1017 : decode cL_law 1017 = .ok (.aload_n 1, 1) := by decide +kernel
theorem dL_law_1018 : decode cL_law 1018 = .ok (.aload_n 0, 1) := by decide +kernel
theorem dL_law_1019 : decode cL_law 1019 = .ok (.iload 5, 2) := by decide +kernel
theorem dL_law_1021 : decode cL_law 1021 = .ok (.iconst 1, 1) := by decide +kernel
theorem dL_law_1022 : decode cL_law 1022 = .ok (.iadd, 1) := by decide +kernel
theorem dL_law_1023 : decode cL_law 1023 = .ok (.iaload, 1) := by decide +kernel
theorem dL_law_1024 : decode cL_law 1024 = .ok (.aload_n 0, 1) := by decide +kernel
theorem dL_law_1025 : decode cL_law 1025 = .ok (.iload 5, 2) := by decide +kernel
theorem dL_law_1027 : decode cL_law 1027 = .ok (.iconst 2, 1) := by decide +kernel
theorem dL_law_1028 : decode cL_law 1028 = .ok (.iadd, 1) := by decide +kernel
theorem dL_law_1029 : decode cL_law 1029 = .ok (.iaload, 1) := by decide +kernel
theorem dL_law_1030 : decode cL_law 1030 = .ok (.aload_n 3, 1) := by decide +kernel
theorem dL_law_1031 : decode cL_law 1031 = .ok (.invokestatic 165, 3) := by decide +kernel
theorem dL_law_1034 : decode cL_law 1034 = .ok (.istore 6, 2) := by decide +kernel
theorem dL_law_1036 : decode cL_law 1036 = .ok (.aload_n 2, 1) := by decide +kernel
theorem dL_law_1037 : decode cL_law 1037 = .ok (.aload_n 0, 1) := by decide +kernel
theorem dL_law_1038 : decode cL_law 1038 = .ok (.iload 5, 2) := by decide +kernel
theorem dL_law_1040 : decode cL_law 1040 = .ok (.iconst 1, 1) := by decide +kernel
theorem dL_law_1041 : decode cL_law 1041 = .ok (.iadd, 1) := by decide +kernel
theorem dL_law_1042 : decode cL_law 1042 = .ok (.iaload, 1) := by decide +kernel
theorem dL_law_1043 : decode cL_law 1043 = .ok (.aload_n 0, 1) := by decide +kernel
theorem dL_law_1044 : decode cL_law 1044 = .ok (.iload 5, 2) := by decide +kernel
theorem dL_law_1046 : decode cL_law 1046 = .ok (.iconst 2, 1) := by decide +kernel
theorem dL_law_1047 : decode cL_law 1047 = .ok (.iadd, 1) := by decide +kernel
theorem dL_law_1048 : decode cL_law 1048 = .ok (.iaload, 1) := by decide +kernel
theorem dL_law_1049 : decode cL_law 1049 = .ok (.invokevirtual 167, 3) := by decide +kernel
theorem dL_law_1052 : decode cL_law 1052 = .ok (.istore 7, 2) := by decide +kernel
theorem dL_law_1054 : decode cL_law 1054 = .ok (.aload_n 2, 1) := by decide +kernel
theorem dL_law_1055 : decode cL_law 1055 = .ok (.invokevirtual 118, 3) := by decide +kernel
theorem dL_law_1058 : decode cL_law 1058 = .ok (.iload 6, 2) := by decide +kernel
theorem dL_law_1060 : decode cL_law 1060 = .ok (.if_icmp .eq 5, 3) := by decide +kernel
theorem dL_law_1063 : decode cL_law 1063 = .ok (.iconst 0, 1) := by decide +kernel
theorem dL_law_1064 : decode cL_law 1064 = .ok (.ireturn, 1) := by decide +kernel
theorem dL_law_1065 : decode cL_law 1065 = .ok (.iload 6, 2) := by decide +kernel
theorem dL_law_1067 : decode cL_law 1067 = .ok (.ifCond .ne 15, 3) := by decide +kernel
theorem dL_law_1070 : decode cL_law 1070 = .ok (.aload_n 3, 1) := by decide +kernel
theorem dL_law_1071 : decode cL_law 1071 = .ok (.iconst 0, 1) := by decide +kernel
theorem dL_law_1072 : decode cL_law 1072 = .ok (.laload, 1) := by decide +kernel
theorem dL_law_1073 : decode cL_law 1073 = .ok (.iload 7, 2) := by decide +kernel
theorem dL_law_1075 : decode cL_law 1075 = .ok (.i2l, 1) := by decide +kernel
theorem dL_law_1076 : decode cL_law 1076 = .ok (.lcmp, 1) := by decide +kernel
theorem dL_law_1077 : decode cL_law 1077 = .ok (.ifCond .eq 5, 3) := by decide +kernel
theorem dL_law_1080 : decode cL_law 1080 = .ok (.iconst 0, 1) := by decide +kernel
theorem dL_law_1081 : decode cL_law 1081 = .ok (.ireturn, 1) := by decide +kernel
theorem dL_law_1082 : decode cL_law 1082 = .ok (.goto 899, 3) := by decide +kernel
theorem dL_law_1085 : decode cL_law 1085 = .ok (.aload_n 1, 1) := by decide +kernel
theorem dL_law_1086 : decode cL_law 1086 = .ok (.aload_n 0, 1) := by decide +kernel
theorem dL_law_1087 : decode cL_law 1087 = .ok (.iload 5, 2) := by decide +kernel
theorem dL_law_1089 : decode cL_law 1089 = .ok (.iconst 1, 1) := by decide +kernel
theorem dL_law_1090 : decode cL_law 1090 = .ok (.iadd, 1) := by decide +kernel
theorem dL_law_1091 : decode cL_law 1091 = .ok (.iaload, 1) := by decide +kernel
theorem dL_law_1092 : decode cL_law 1092 = .ok (.aload_n 3, 1) := by decide +kernel
theorem dL_law_1093 : decode cL_law 1093 = .ok (.invokestatic 168, 3) := by decide +kernel
theorem dL_law_1096 : decode cL_law 1096 = .ok (.istore 6, 2) := by decide +kernel
theorem dL_law_1098 : decode cL_law 1098 = .ok (.aload_n 2, 1) := by decide +kernel
theorem dL_law_1099 : decode cL_law 1099 = .ok (.aload_n 0, 1) := by decide +kernel
theorem dL_law_1100 : decode cL_law 1100 = .ok (.iload 5, 2) := by decide +kernel
theorem dL_law_1102 : decode cL_law 1102 = .ok (.iconst 1, 1) := by decide +kernel
theorem dL_law_1103 : decode cL_law 1103 = .ok (.iadd, 1) := by decide +kernel
theorem dL_law_1104 : decode cL_law 1104 = .ok (.iaload, 1) := by decide +kernel
theorem dL_law_1105 : decode cL_law 1105 = .ok (.invokevirtual 170, 3) := by decide +kernel
theorem dL_law_1108 : decode cL_law 1108 = .ok (.istore 7, 2) := by decide +kernel
theorem dL_law_1110 : decode cL_law 1110 = .ok (.aload_n 2, 1) := by decide +kernel
theorem dL_law_1111 : decode cL_law 1111 = .ok (.invokevirtual 118, 3) := by decide +kernel
theorem dL_law_1114 : decode cL_law 1114 = .ok (.iload 6, 2) := by decide +kernel
theorem dL_law_1116 : decode cL_law 1116 = .ok (.if_icmp .eq 5, 3) := by decide +kernel
theorem dL_law_1119 : decode cL_law 1119 = .ok (.iconst 0, 1) := by decide +kernel
theorem dL_law_1120 : decode cL_law 1120 = .ok (.ireturn, 1) := by decide +kernel
theorem dL_law_1121 : decode cL_law 1121 = .ok (.iload 6, 2) := by decide +kernel
theorem dL_law_1123 : decode cL_law 1123 = .ok (.ifCond .ne 15, 3) := by decide +kernel
theorem dL_law_1126 : decode cL_law 1126 = .ok (.aload_n 3, 1) := by decide +kernel
theorem dL_law_1127 : decode cL_law 1127 = .ok (.iconst 0, 1) := by decide +kernel
theorem dL_law_1128 : decode cL_law 1128 = .ok (.laload, 1) := by decide +kernel
theorem dL_law_1129 : decode cL_law 1129 = .ok (.iload 7, 2) := by decide +kernel
theorem dL_law_1131 : decode cL_law 1131 = .ok (.i2l, 1) := by decide +kernel
theorem dL_law_1132 : decode cL_law 1132 = .ok (.lcmp, 1) := by decide +kernel
theorem dL_law_1133 : decode cL_law 1133 = .ok (.ifCond .eq 5, 3) := by decide +kernel
theorem dL_law_1136 : decode cL_law 1136 = .ok (.iconst 0, 1) := by decide +kernel
theorem dL_law_1137 : decode cL_law 1137 = .ok (.ireturn, 1) := by decide +kernel
theorem dL_law_1138 : decode cL_law 1138 = .ok (.goto 843, 3) := by decide +kernel
theorem dL_law_1141 : decode cL_law 1141 = .ok (.aload_n 1, 1) := by decide +kernel
theorem dL_law_1142 : decode cL_law 1142 = .ok (.aload_n 0, 1) := by decide +kernel
theorem dL_law_1143 : decode cL_law 1143 = .ok (.iload 5, 2) := by decide +kernel
theorem dL_law_1145 : decode cL_law 1145 = .ok (.iconst 1, 1) := by decide +kernel
theorem dL_law_1146 : decode cL_law 1146 = .ok (.iadd, 1) := by decide +kernel
theorem dL_law_1147 : decode cL_law 1147 = .ok (.iaload, 1) := by decide +kernel
theorem dL_law_1148 : decode cL_law 1148 = .ok (.aload_n 3, 1) := by decide +kernel
theorem dL_law_1149 : decode cL_law 1149 = .ok (.invokestatic 171, 3) := by decide +kernel
theorem dL_law_1152 : decode cL_law 1152 = .ok (.istore 6, 2) := by decide +kernel
theorem dL_law_1154 : decode cL_law 1154 = .ok (.aload_n 2, 1) := by decide +kernel
theorem dL_law_1155 : decode cL_law 1155 = .ok (.aload_n 0, 1) := by decide +kernel
theorem dL_law_1156 : decode cL_law 1156 = .ok (.iload 5, 2) := by decide +kernel
theorem dL_law_1158 : decode cL_law 1158 = .ok (.iconst 1, 1) := by decide +kernel
theorem dL_law_1159 : decode cL_law 1159 = .ok (.iadd, 1) := by decide +kernel
theorem dL_law_1160 : decode cL_law 1160 = .ok (.iaload, 1) := by decide +kernel
theorem dL_law_1161 : decode cL_law 1161 = .ok (.invokevirtual 173, 3) := by decide +kernel
theorem dL_law_1164 : decode cL_law 1164 = .ok (.istore 7, 2) := by decide +kernel
theorem dL_law_1166 : decode cL_law 1166 = .ok (.aload_n 2, 1) := by decide +kernel
theorem dL_law_1167 : decode cL_law 1167 = .ok (.invokevirtual 118, 3) := by decide +kernel
theorem dL_law_1170 : decode cL_law 1170 = .ok (.iload 6, 2) := by decide +kernel
theorem dL_law_1172 : decode cL_law 1172 = .ok (.if_icmp .eq 5, 3) := by decide +kernel
theorem dL_law_1175 : decode cL_law 1175 = .ok (.iconst 0, 1) := by decide +kernel
theorem dL_law_1176 : decode cL_law 1176 = .ok (.ireturn, 1) := by decide +kernel
theorem dL_law_1177 : decode cL_law 1177 = .ok (.iload 6, 2) := by decide +kernel
theorem dL_law_1179 : decode cL_law 1179 = .ok (.ifCond .ne 15, 3) := by decide +kernel
theorem dL_law_1182 : decode cL_law 1182 = .ok (.aload_n 3, 1) := by decide +kernel
theorem dL_law_1183 : decode cL_law 1183 = .ok (.iconst 0, 1) := by decide +kernel
theorem dL_law_1184 : decode cL_law 1184 = .ok (.laload, 1) := by decide +kernel
theorem dL_law_1185 : decode cL_law 1185 = .ok (.iload 7, 2) := by decide +kernel
theorem dL_law_1187 : decode cL_law 1187 = .ok (.i2l, 1) := by decide +kernel
theorem dL_law_1188 : decode cL_law 1188 = .ok (.lcmp, 1) := by decide +kernel
theorem dL_law_1189 : decode cL_law 1189 = .ok (.ifCond .eq 5, 3) := by decide +kernel
theorem dL_law_1192 : decode cL_law 1192 = .ok (.iconst 0, 1) := by decide +kernel
theorem dL_law_1193 : decode cL_law 1193 = .ok (.ireturn, 1) := by decide +kernel
theorem dL_law_1194 : decode cL_law 1194 = .ok (.goto 787, 3) := by decide +kernel
theorem dL_law_1197 : decode cL_law 1197 = .ok (.aload_n 1, 1) := by decide +kernel
theorem dL_law_1198 : decode cL_law 1198 = .ok (.aload_n 0, 1) := by decide +kernel
theorem dL_law_1199 : decode cL_law 1199 = .ok (.iload 5, 2) := by decide +kernel
theorem dL_law_1201 : decode cL_law 1201 = .ok (.iconst 1, 1) := by decide +kernel
theorem dL_law_1202 : decode cL_law 1202 = .ok (.iadd, 1) := by decide +kernel
theorem dL_law_1203 : decode cL_law 1203 = .ok (.iaload, 1) := by decide +kernel
theorem dL_law_1204 : decode cL_law 1204 = .ok (.ifCond .eq 7, 3) := by decide +kernel
theorem dL_law_1207 : decode cL_law 1207 = .ok (.iconst 1, 1) := by decide +kernel
theorem dL_law_1208 : decode cL_law 1208 = .ok (.goto 4, 3) := by decide +kernel
theorem dL_law_1211 : decode cL_law 1211 = .ok (.iconst 0, 1) := by decide +kernel
theorem dL_law_1212 : decode cL_law 1212 = .ok (.invokevirtual 174, 3) := by decide +kernel
theorem dL_law_1215 : decode cL_law 1215 = .ok (.aload_n 2, 1) := by decide +kernel
theorem dL_law_1216 : decode cL_law 1216 = .ok (.aload_n 0, 1) := by decide +kernel
theorem dL_law_1217 : decode cL_law 1217 = .ok (.iload 5, 2) := by decide +kernel
theorem dL_law_1219 : decode cL_law 1219 = .ok (.iconst 1, 1) := by decide +kernel
theorem dL_law_1220 : decode cL_law 1220 = .ok (.iadd, 1) := by decide +kernel
theorem dL_law_1221 : decode cL_law 1221 = .ok (.iaload, 1) := by decide +kernel
theorem dL_law_1222 : decode cL_law 1222 = .ok (.ifCond .eq 7, 3) := by decide +kernel
theorem dL_law_1225 : decode cL_law 1225 = .ok (.iconst 1, 1) := by decide +kernel
theorem dL_law_1226 : decode cL_law 1226 = .ok (.goto 4, 3) := by decide +kernel
theorem dL_law_1229 : decode cL_law 1229 = .ok (.iconst 0, 1) := by decide +kernel
theorem dL_law_1230 : decode cL_law 1230 = .ok (.invokevirtual 178, 3) := by decide +kernel
theorem dL_law_1233 : decode cL_law 1233 = .ok (.if_icmp .eq 748, 3) := by decide +kernel
theorem dL_law_1236 : decode cL_law 1236 = .ok (.iconst 0, 1) := by decide +kernel
theorem dL_law_1237 : decode cL_law 1237 = .ok (.ireturn, 1) := by decide +kernel
theorem dL_law_1238 : decode cL_law 1238 = .ok (.aload_n 1, 1) := by decide +kernel
theorem dL_law_1239 : decode cL_law 1239 = .ok (.aload_n 0, 1) := by decide +kernel
theorem dL_law_1240 : decode cL_law 1240 = .ok (.iload 5, 2) := by decide +kernel
theorem dL_law_1242 : decode cL_law 1242 = .ok (.iconst 1, 1) := by decide +kernel
theorem dL_law_1243 : decode cL_law 1243 = .ok (.iadd, 1) := by decide +kernel
theorem dL_law_1244 : decode cL_law 1244 = .ok (.iaload, 1) := by decide +kernel
theorem dL_law_1245 : decode cL_law 1245 = .ok (.aload_n 3, 1) := by decide +kernel
theorem dL_law_1246 : decode cL_law 1246 = .ok (.invokestatic 179, 3) := by decide +kernel
theorem dL_law_1249 : decode cL_law 1249 = .ok (.istore 6, 2) := by decide +kernel
theorem dL_law_1251 : decode cL_law 1251 = .ok (.aload_n 2, 1) := by decide +kernel
theorem dL_law_1252 : decode cL_law 1252 = .ok (.aload_n 0, 1) := by decide +kernel
theorem dL_law_1253 : decode cL_law 1253 = .ok (.iload 5, 2) := by decide +kernel
theorem dL_law_1255 : decode cL_law 1255 = .ok (.iconst 1, 1) := by decide +kernel
theorem dL_law_1256 : decode cL_law 1256 = .ok (.iadd, 1) := by decide +kernel
theorem dL_law_1257 : decode cL_law 1257 = .ok (.iaload, 1) := by decide +kernel
theorem dL_law_1258 : decode cL_law 1258 = .ok (.invokevirtual 181, 3) := by decide +kernel
theorem dL_law_1261 : decode cL_law 1261 = .ok (.istore 7, 2) := by decide +kernel
theorem dL_law_1263 : decode cL_law 1263 = .ok (.aload_n 2, 1) := by decide +kernel
theorem dL_law_1264 : decode cL_law 1264 = .ok (.invokevirtual 118, 3) := by decide +kernel
theorem dL_law_1267 : decode cL_law 1267 = .ok (.iload 6, 2) := by decide +kernel
theorem dL_law_1269 : decode cL_law 1269 = .ok (.if_icmp .eq 5, 3) := by decide +kernel
theorem dL_law_1272 : decode cL_law 1272 = .ok (.iconst 0, 1) := by decide +kernel
theorem dL_law_1273 : decode cL_law 1273 = .ok (.ireturn, 1) := by decide +kernel
theorem dL_law_1274 : decode cL_law 1274 = .ok (.iload 6, 2) := by decide +kernel
theorem dL_law_1276 : decode cL_law 1276 = .ok (.ifCond .ne 15, 3) := by decide +kernel
theorem dL_law_1279 : decode cL_law 1279 = .ok (.aload_n 3, 1) := by decide +kernel
theorem dL_law_1280 : decode cL_law 1280 = .ok (.iconst 0, 1) := by decide +kernel
theorem dL_law_1281 : decode cL_law 1281 = .ok (.laload, 1) := by decide +kernel
theorem dL_law_1282 : decode cL_law 1282 = .ok (.iload 7, 2) := by decide +kernel
theorem dL_law_1284 : decode cL_law 1284 = .ok (.i2l, 1) := by decide +kernel
theorem dL_law_1285 : decode cL_law 1285 = .ok (.lcmp, 1) := by decide +kernel
theorem dL_law_1286 : decode cL_law 1286 = .ok (.ifCond .eq 5, 3) := by decide +kernel
theorem dL_law_1289 : decode cL_law 1289 = .ok (.iconst 0, 1) := by decide +kernel
theorem dL_law_1290 : decode cL_law 1290 = .ok (.ireturn, 1) := by decide +kernel
theorem dL_law_1291 : decode cL_law 1291 = .ok (.goto 690, 3) := by decide +kernel
theorem dL_law_1294 : decode cL_law 1294 = .ok (.aload_n 1, 1) := by decide +kernel
theorem dL_law_1295 : decode cL_law 1295 = .ok (.aload_n 0, 1) := by decide +kernel
theorem dL_law_1296 : decode cL_law 1296 = .ok (.iload 5, 2) := by decide +kernel
theorem dL_law_1298 : decode cL_law 1298 = .ok (.iconst 1, 1) := by decide +kernel
theorem dL_law_1299 : decode cL_law 1299 = .ok (.iadd, 1) := by decide +kernel
theorem dL_law_1300 : decode cL_law 1300 = .ok (.iaload, 1) := by decide +kernel
theorem dL_law_1301 : decode cL_law 1301 = .ok (.aload_n 3, 1) := by decide +kernel
theorem dL_law_1302 : decode cL_law 1302 = .ok (.invokestatic 182, 3) := by decide +kernel
theorem dL_law_1305 : decode cL_law 1305 = .ok (.istore 6, 2) := by decide +kernel
theorem dL_law_1307 : decode cL_law 1307 = .ok (.aload_n 2, 1) := by decide +kernel
theorem dL_law_1308 : decode cL_law 1308 = .ok (.aload_n 0, 1) := by decide +kernel
theorem dL_law_1309 : decode cL_law 1309 = .ok (.iload 5, 2) := by decide +kernel
theorem dL_law_1311 : decode cL_law 1311 = .ok (.iconst 1, 1) := by decide +kernel
theorem dL_law_1312 : decode cL_law 1312 = .ok (.iadd, 1) := by decide +kernel
theorem dL_law_1313 : decode cL_law 1313 = .ok (.iaload, 1) := by decide +kernel
theorem dL_law_1314 : decode cL_law 1314 = .ok (.invokevirtual 184, 3) := by decide +kernel
theorem dL_law_1317 : decode cL_law 1317 = .ok (.istore 7, 2) := by decide +kernel
theorem dL_law_1319 : decode cL_law 1319 = .ok (.aload_n 2, 1) := by decide +kernel
theorem dL_law_1320 : decode cL_law 1320 = .ok (.invokevirtual 118, 3) := by decide +kernel
theorem dL_law_1323 : decode cL_law 1323 = .ok (.iload 6, 2) := by decide +kernel
theorem dL_law_1325 : decode cL_law 1325 = .ok (.if_icmp .eq 5, 3) := by decide +kernel
theorem dL_law_1328 : decode cL_law 1328 = .ok (.iconst 0, 1) := by decide +kernel
theorem dL_law_1329 : decode cL_law 1329 = .ok (.ireturn, 1) := by decide +kernel
theorem dL_law_1330 : decode cL_law 1330 = .ok (.iload 6, 2) := by decide +kernel
theorem dL_law_1332 : decode cL_law 1332 = .ok (.ifCond .ne 15, 3) := by decide +kernel
theorem dL_law_1335 : decode cL_law 1335 = .ok (.aload_n 3, 1) := by decide +kernel
theorem dL_law_1336 : decode cL_law 1336 = .ok (.iconst 0, 1) := by decide +kernel
theorem dL_law_1337 : decode cL_law 1337 = .ok (.laload, 1) := by decide +kernel
theorem dL_law_1338 : decode cL_law 1338 = .ok (.iload 7, 2) := by decide +kernel
theorem dL_law_1340 : decode cL_law 1340 = .ok (.i2l, 1) := by decide +kernel
theorem dL_law_1341 : decode cL_law 1341 = .ok (.lcmp, 1) := by decide +kernel
theorem dL_law_1342 : decode cL_law 1342 = .ok (.ifCond .eq 5, 3) := by decide +kernel
theorem dL_law_1345 : decode cL_law 1345 = .ok (.iconst 0, 1) := by decide +kernel
theorem dL_law_1346 : decode cL_law 1346 = .ok (.ireturn, 1) := by decide +kernel
theorem dL_law_1347 : decode cL_law 1347 = .ok (.goto 634, 3) := by decide +kernel
theorem dL_law_1350 : decode cL_law 1350 = .ok (.aload_n 1, 1) := by decide +kernel
theorem dL_law_1351 : decode cL_law 1351 = .ok (.aload_n 0, 1) := by decide +kernel
theorem dL_law_1352 : decode cL_law 1352 = .ok (.iload 5, 2) := by decide +kernel
theorem dL_law_1354 : decode cL_law 1354 = .ok (.iconst 1, 1) := by decide +kernel
theorem dL_law_1355 : decode cL_law 1355 = .ok (.iadd, 1) := by decide +kernel
theorem dL_law_1356 : decode cL_law 1356 = .ok (.iaload, 1) := by decide +kernel
theorem dL_law_1357 : decode cL_law 1357 = .ok (.aload_n 0, 1) := by decide +kernel
theorem dL_law_1358 : decode cL_law 1358 = .ok (.iload 5, 2) := by decide +kernel
theorem dL_law_1360 : decode cL_law 1360 = .ok (.iconst 2, 1) := by decide +kernel
theorem dL_law_1361 : decode cL_law 1361 = .ok (.iadd, 1) := by decide +kernel
theorem dL_law_1362 : decode cL_law 1362 = .ok (.iaload, 1) := by decide +kernel
theorem dL_law_1363 : decode cL_law 1363 = .ok (.ifCond .eq 7, 3) := by decide +kernel
theorem dL_law_1366 : decode cL_law 1366 = .ok (.iconst 1, 1) := by decide +kernel
theorem dL_law_1367 : decode cL_law 1367 = .ok (.goto 4, 3) := by decide +kernel
theorem dL_law_1370 : decode cL_law 1370 = .ok (.iconst 0, 1) := by decide +kernel
theorem dL_law_1371 : decode cL_law 1371 = .ok (.aload_n 3, 1) := by decide +kernel
theorem dL_law_1372 : decode cL_law 1372 = .ok (.invokestatic 185, 3) := by decide +kernel
theorem dL_law_1375 : decode cL_law 1375 = .ok (.istore 6, 2) := by decide +kernel
theorem dL_law_1377 : decode cL_law 1377 = .ok (.aload_n 2, 1) := by decide +kernel
theorem dL_law_1378 : decode cL_law 1378 = .ok (.aload_n 0, 1) := by decide +kernel
theorem dL_law_1379 : decode cL_law 1379 = .ok (.iload 5, 2) := by decide +kernel
theorem dL_law_1381 : decode cL_law 1381 = .ok (.iconst 1, 1) := by decide +kernel
theorem dL_law_1382 : decode cL_law 1382 = .ok (.iadd, 1) := by decide +kernel
theorem dL_law_1383 : decode cL_law 1383 = .ok (.iaload, 1) := by decide +kernel
theorem dL_law_1384 : decode cL_law 1384 = .ok (.aload_n 0, 1) := by decide +kernel
theorem dL_law_1385 : decode cL_law 1385 = .ok (.iload 5, 2) := by decide +kernel
theorem dL_law_1387 : decode cL_law 1387 = .ok (.iconst 2, 1) := by decide +kernel
theorem dL_law_1388 : decode cL_law 1388 = .ok (.iadd, 1) := by decide +kernel
theorem dL_law_1389 : decode cL_law 1389 = .ok (.iaload, 1) := by decide +kernel
theorem dL_law_1390 : decode cL_law 1390 = .ok (.ifCond .eq 7, 3) := by decide +kernel
theorem dL_law_1393 : decode cL_law 1393 = .ok (.iconst 1, 1) := by decide +kernel
theorem dL_law_1394 : decode cL_law 1394 = .ok (.goto 4, 3) := by decide +kernel
theorem dL_law_1397 : decode cL_law 1397 = .ok (.iconst 0, 1) := by decide +kernel
theorem dL_law_1398 : decode cL_law 1398 = .ok (.invokevirtual 188, 3) := by decide +kernel
theorem dL_law_1401 : decode cL_law 1401 = .ok (.istore 7, 2) := by decide +kernel
theorem dL_law_1403 : decode cL_law 1403 = .ok (.aload_n 2, 1) := by decide +kernel
theorem dL_law_1404 : decode cL_law 1404 = .ok (.invokevirtual 118, 3) := by decide +kernel
theorem dL_law_1407 : decode cL_law 1407 = .ok (.iload 6, 2) := by decide +kernel
theorem dL_law_1409 : decode cL_law 1409 = .ok (.if_icmp .eq 5, 3) := by decide +kernel
theorem dL_law_1412 : decode cL_law 1412 = .ok (.iconst 0, 1) := by decide +kernel
theorem dL_law_1413 : decode cL_law 1413 = .ok (.ireturn, 1) := by decide +kernel
theorem dL_law_1414 : decode cL_law 1414 = .ok (.iload 6, 2) := by decide +kernel
theorem dL_law_1416 : decode cL_law 1416 = .ok (.ifCond .ne 15, 3) := by decide +kernel
theorem dL_law_1419 : decode cL_law 1419 = .ok (.aload_n 3, 1) := by decide +kernel
theorem dL_law_1420 : decode cL_law 1420 = .ok (.iconst 0, 1) := by decide +kernel
theorem dL_law_1421 : decode cL_law 1421 = .ok (.laload, 1) := by decide +kernel
theorem dL_law_1422 : decode cL_law 1422 = .ok (.iload 7, 2) := by decide +kernel
theorem dL_law_1424 : decode cL_law 1424 = .ok (.i2l, 1) := by decide +kernel
theorem dL_law_1425 : decode cL_law 1425 = .ok (.lcmp, 1) := by decide +kernel
theorem dL_law_1426 : decode cL_law 1426 = .ok (.ifCond .eq 5, 3) := by decide +kernel
theorem dL_law_1429 : decode cL_law 1429 = .ok (.iconst 0, 1) := by decide +kernel
theorem dL_law_1430 : decode cL_law 1430 = .ok (.ireturn, 1) := by decide +kernel
theorem dL_law_1431 : decode cL_law 1431 = .ok (.goto 550, 3) := by decide +kernel
theorem dL_law_1434 : decode cL_law 1434 = .ok (.aload_n 1, 1) := by decide +kernel
theorem dL_law_1435 : decode cL_law 1435 = .ok (.aload_n 0, 1) := by decide +kernel
theorem dL_law_1436 : decode cL_law 1436 = .ok (.iload 5, 2) := by decide +kernel
theorem dL_law_1438 : decode cL_law 1438 = .ok (.iconst 1, 1) := by decide +kernel
theorem dL_law_1439 : decode cL_law 1439 = .ok (.iadd, 1) := by decide +kernel
theorem dL_law_1440 : decode cL_law 1440 = .ok (.iaload, 1) := by decide +kernel
theorem dL_law_1441 : decode cL_law 1441 = .ok (.aload_n 3, 1) := by decide +kernel
theorem dL_law_1442 : decode cL_law 1442 = .ok (.invokestatic 189, 3) := by decide +kernel
theorem dL_law_1445 : decode cL_law 1445 = .ok (.istore 6, 2) := by decide +kernel
theorem dL_law_1447 : decode cL_law 1447 = .ok (.aload_n 2, 1) := by decide +kernel
theorem dL_law_1448 : decode cL_law 1448 = .ok (.aload_n 0, 1) := by decide +kernel
theorem dL_law_1449 : decode cL_law 1449 = .ok (.iload 5, 2) := by decide +kernel
theorem dL_law_1451 : decode cL_law 1451 = .ok (.iconst 1, 1) := by decide +kernel
end
section
theorem dL_law_1452 : decode cL_law 1452 = .ok (.iadd, 1) := by decide +kernel
theorem dL_law_1453 : decode cL_law 1453 = .ok (.iaload, 1) := by decide +kernel
theorem dL_law_1454 : decode cL_law 1454 = .ok (.invokevirtual 191, 3) := by decide +kernel
theorem dL_law_1457 : decode cL_law 1457 = .ok (.istore 7, 2) := by decide +kernel
theorem dL_law_1459 : decode cL_law 1459 = .ok (.aload_n 2, 1) := by decide +kernel
theorem dL_law_1460 : decode cL_law 1460 = .ok (.invokevirtual 118, 3) := by decide +kernel
theorem dL_law_1463 : decode cL_law 1463 = .ok (.iload 6, 2) := by decide +kernel
theorem dL_law_1465 : decode cL_law 1465 = .ok (.if_icmp .eq 5, 3) := by decide +kernel
theorem dL_law_1468 : decode cL_law 1468 = .ok (.iconst 0, 1) := by decide +kernel
theorem dL_law_1469 : decode cL_law 1469 = .ok (.ireturn, 1) := by decide +kernel
theorem dL_law_1470 : decode cL_law 1470 = .ok (.iload 6, 2) := by decide +kernel
theorem dL_law_1472 : decode cL_law 1472 = .ok (.ifCond .ne 22, 3) := by decide +kernel
theorem dL_law_1475 : decode cL_law 1475 = .ok (.aload_n 3, 1) := by decide +kernel
theorem dL_law_1476 : decode cL_law 1476 = .ok (.iconst 0, 1) := by decide +kernel
theorem dL_law_1477 : decode cL_law 1477 = .ok (.laload, 1) := by decide +kernel
theorem dL_law_1478 : decode cL_law 1478 = .ok (.iload 7, 2) := by decide +kernel
theorem dL_law_1480 : decode cL_law 1480 = .ok (.ifCond .eq 7, 3) := by decide +kernel
theorem dL_law_1483 : decode cL_law 1483 = .ok (.lconst 1, 1) := by decide +kernel
theorem dL_law_1484 : decode cL_law 1484 = .ok (.goto 4, 3) := by decide +kernel
theorem dL_law_1487 : decode cL_law 1487 = .ok (.lconst 0, 1) := by decide +kernel
theorem dL_law_1488 : decode cL_law 1488 = .ok (.lcmp, 1) := by decide +kernel
theorem dL_law_1489 : decode cL_law 1489 = .ok (.ifCond .eq 5, 3) := by decide +kernel
theorem dL_law_1492 : decode cL_law 1492 = .ok (.iconst 0, 1) := by decide +kernel
theorem dL_law_1493 : decode cL_law 1493 = .ok (.ireturn, 1) := by decide +kernel
theorem dL_law_1494 : decode cL_law 1494 = .ok (.goto 487, 3) := by decide +kernel
theorem dL_law_1497 : decode cL_law 1497 = .ok (.aload_n 1, 1) := by decide +kernel
theorem dL_law_1498 : decode cL_law 1498 = .ok (.invokevirtual 192, 3) := by decide +kernel
theorem dL_law_1501 : decode cL_law 1501 = .ok (.aload_n 2, 1) := by decide +kernel
theorem dL_law_1502 : decode cL_law 1502 = .ok (.invokevirtual 195, 3) := by decide +kernel
theorem dL_law_1505 : decode cL_law 1505 = .ok (.if_icmp .eq 476, 3) := by decide +kernel
theorem dL_law_1508 : decode cL_law 1508 = .ok (.iconst 0, 1) := by decide +kernel
theorem dL_law_1509 : decode cL_law 1509 = .ok (.ireturn, 1) := by decide +kernel
theorem dL_law_1510 : decode cL_law 1510 = .ok (.aload_n 1, 1) := by decide +kernel
theorem dL_law_1511 : decode cL_law 1511 = .ok (.aload_n 0, 1) := by decide +kernel
theorem dL_law_1512 : decode cL_law 1512 = .ok (.iload 5, 2) := by decide +kernel
theorem dL_law_1514 : decode cL_law 1514 = .ok (.iconst 1, 1) := by decide +kernel
theorem dL_law_1515 : decode cL_law 1515 = .ok (.iadd, 1) := by decide +kernel
theorem dL_law_1516 : decode cL_law 1516 = .ok (.iaload, 1) := by decide +kernel
theorem dL_law_1517 : decode cL_law 1517 = .ok (.aload_n 3, 1) := by decide +kernel
theorem dL_law_1518 : decode cL_law 1518 = .ok (.invokestatic 196, 3) := by decide +kernel
theorem dL_law_1521 : decode cL_law 1521 = .ok (.istore 6, 2) := by decide +kernel
theorem dL_law_1523 : decode cL_law 1523 = .ok (.aload_n 2, 1) := by decide +kernel
theorem dL_law_1524 : decode cL_law 1524 = .ok (.aload_n 0, 1) := by decide +kernel
theorem dL_law_1525 : decode cL_law 1525 = .ok (.iload 5, 2) := by decide +kernel
theorem dL_law_1527 : decode cL_law 1527 = .ok (.iconst 1, 1) := by decide +kernel
theorem dL_law_1528 : decode cL_law 1528 = .ok (.iadd, 1) := by decide +kernel
theorem dL_law_1529 : decode cL_law 1529 = .ok (.iaload, 1) := by decide +kernel
theorem dL_law_1530 : decode cL_law 1530 = .ok (.invokevirtual 198, 3) := by decide +kernel
theorem dL_law_1533 : decode cL_law 1533 = .ok (.istore 7, 2) := by decide +kernel
theorem dL_law_1535 : decode cL_law 1535 = .ok (.aload_n 2, 1) := by decide +kernel
theorem dL_law_1536 : decode cL_law 1536 = .ok (.invokevirtual 118, 3) := by decide +kernel
theorem dL_law_1539 : decode cL_law 1539 = .ok (.iload 6, 2) := by decide +kernel
theorem dL_law_1541 : decode cL_law 1541 = .ok (.if_icmp .eq 5, 3) := by decide +kernel
theorem dL_law_1544 : decode cL_law 1544 = .ok (.iconst 0, 1) := by decide +kernel
theorem dL_law_1545 : decode cL_law 1545 = .ok (.ireturn, 1) := by decide +kernel
theorem dL_law_1546 : decode cL_law 1546 = .ok (.iload 6, 2) := by decide +kernel
theorem dL_law_1548 : decode cL_law 1548 = .ok (.ifCond .ne 15, 3) := by decide +kernel
theorem dL_law_1551 : decode cL_law 1551 = .ok (.aload_n 3, 1) := by decide +kernel
theorem dL_law_1552 : decode cL_law 1552 = .ok (.iconst 0, 1) := by decide +kernel
theorem dL_law_1553 : decode cL_law 1553 = .ok (.laload, 1) := by decide +kernel
theorem dL_law_1554 : decode cL_law 1554 = .ok (.iload 7, 2) := by decide +kernel
theorem dL_law_1556 : decode cL_law 1556 = .ok (.i2l, 1) := by decide +kernel
theorem dL_law_1557 : decode cL_law 1557 = .ok (.lcmp, 1) := by decide +kernel
theorem dL_law_1558 : decode cL_law 1558 = .ok (.ifCond .eq 5, 3) := by decide +kernel
theorem dL_law_1561 : decode cL_law 1561 = .ok (.iconst 0, 1) := by decide +kernel
theorem dL_law_1562 : decode cL_law 1562 = .ok (.ireturn, 1) := by decide +kernel
theorem dL_law_1563 : decode cL_law 1563 = .ok (.goto 418, 3) := by decide +kernel
theorem dL_law_1566 : decode cL_law 1566 = .ok (.aload_n 1, 1) := by decide +kernel
theorem dL_law_1567 : decode cL_law 1567 = .ok (.aload_n 0, 1) := by decide +kernel
theorem dL_law_1568 : decode cL_law 1568 = .ok (.iload 5, 2) := by decide +kernel
theorem dL_law_1570 : decode cL_law 1570 = .ok (.iconst 1, 1) := by decide +kernel
theorem dL_law_1571 : decode cL_law 1571 = .ok (.iadd, 1) := by decide +kernel
theorem dL_law_1572 : decode cL_law 1572 = .ok (.iaload, 1) := by decide +kernel
theorem dL_law_1573 : decode cL_law 1573 = .ok (.aload_n 3, 1) := by decide +kernel
theorem dL_law_1574 : decode cL_law 1574 = .ok (.invokestatic 199, 3) := by decide +kernel
theorem dL_law_1577 : decode cL_law 1577 = .ok (.istore 6, 2) := by decide +kernel
theorem dL_law_1579 : decode cL_law 1579 = .ok (.aload_n 2, 1) := by decide +kernel
theorem dL_law_1580 : decode cL_law 1580 = .ok (.aload_n 0, 1) := by decide +kernel
theorem dL_law_1581 : decode cL_law 1581 = .ok (.iload 5, 2) := by decide +kernel
theorem dL_law_1583 : decode cL_law 1583 = .ok (.iconst 1, 1) := by decide +kernel
theorem dL_law_1584 : decode cL_law 1584 = .ok (.iadd, 1) := by decide +kernel
theorem dL_law_1585 : decode cL_law 1585 = .ok (.iaload, 1) := by decide +kernel
theorem dL_law_1586 : decode cL_law 1586 = .ok (.invokevirtual 201, 3) := by decide +kernel
theorem dL_law_1589 : decode cL_law 1589 = .ok (.istore 7, 2) := by decide +kernel
theorem dL_law_1591 : decode cL_law 1591 = .ok (.aload_n 2, 1) := by decide +kernel
theorem dL_law_1592 : decode cL_law 1592 = .ok (.invokevirtual 118, 3) := by decide +kernel
theorem dL_law_1595 : decode cL_law 1595 = .ok (.iload 6, 2) := by decide +kernel
theorem dL_law_1597 : decode cL_law 1597 = .ok (.if_icmp .eq 5, 3) := by decide +kernel
theorem dL_law_1600 : decode cL_law 1600 = .ok (.iconst 0, 1) := by decide +kernel
theorem dL_law_1601 : decode cL_law 1601 = .ok (.ireturn, 1) := by decide +kernel
theorem dL_law_1602 : decode cL_law 1602 = .ok (.iload 6, 2) := by decide +kernel
theorem dL_law_1604 : decode cL_law 1604 = .ok (.ifCond .ne 15, 3) := by decide +kernel
theorem dL_law_1607 : decode cL_law 1607 = .ok (.aload_n 3, 1) := by decide +kernel
theorem dL_law_1608 : decode cL_law 1608 = .ok (.iconst 0, 1) := by decide +kernel
theorem dL_law_1609 : decode cL_law 1609 = .ok (.laload, 1) := by decide +kernel
theorem dL_law_1610 : decode cL_law 1610 = .ok (.iload 7, 2) := by decide +kernel
theorem dL_law_1612 : decode cL_law 1612 = .ok (.i2l, 1) := by decide +kernel
theorem dL_law_1613 : decode cL_law 1613 = .ok (.lcmp, 1) := by decide +kernel
theorem dL_law_1614 : decode cL_law 1614 = .ok (.ifCond .eq 5, 3) := by decide +kernel
theorem dL_law_1617 : decode cL_law 1617 = .ok (.iconst 0, 1) := by decide +kernel
theorem dL_law_1618 : decode cL_law 1618 = .ok (.ireturn, 1) := by decide +kernel
theorem dL_law_1619 : decode cL_law 1619 = .ok (.goto 362, 3) := by decide +kernel
theorem dL_law_1622 : decode cL_law 1622 = .ok (.aload_n 1, 1) := by decide +kernel
theorem dL_law_1623 : decode cL_law 1623 = .ok (.aload_n 0, 1) := by decide +kernel
theorem dL_law_1624 : decode cL_law 1624 = .ok (.iload 5, 2) := by decide +kernel
theorem dL_law_1626 : decode cL_law 1626 = .ok (.iconst 1, 1) := by decide +kernel
theorem dL_law_1627 : decode cL_law 1627 = .ok (.iadd, 1) := by decide +kernel
theorem dL_law_1628 : decode cL_law 1628 = .ok (.iaload, 1) := by decide +kernel
theorem dL_law_1629 : decode cL_law 1629 = .ok (.aload_n 0, 1) := by decide +kernel
theorem dL_law_1630 : decode cL_law 1630 = .ok (.iload 5, 2) := by decide +kernel
theorem dL_law_1632 : decode cL_law 1632 = .ok (.iconst 2, 1) := by decide +kernel
theorem dL_law_1633 : decode cL_law 1633 = .ok (.iadd, 1) := by decide +kernel
theorem dL_law_1634 : decode cL_law 1634 = .ok (.iaload, 1) := by decide +kernel
theorem dL_law_1635 : decode cL_law 1635 = .ok (.aload_n 3, 1) := by decide +kernel
theorem dL_law_1636 : decode cL_law 1636 = .ok (.invokestatic 202, 3) := by decide +kernel
theorem dL_law_1639 : decode cL_law 1639 = .ok (.istore 6, 2) := by decide +kernel
theorem dL_law_1641 : decode cL_law 1641 = .ok (.aload_n 2, 1) := by decide +kernel
theorem dL_law_1642 : decode cL_law 1642 = .ok (.aload_n 0, 1) := by decide +kernel
theorem dL_law_1643 : decode cL_law 1643 = .ok (.iload 5, 2) := by decide +kernel
theorem dL_law_1645 : decode cL_law 1645 = .ok (.iconst 1, 1) := by decide +kernel
theorem dL_law_1646 : decode cL_law 1646 = .ok (.iadd, 1) := by decide +kernel
theorem dL_law_1647 : decode cL_law 1647 = .ok (.iaload, 1) := by decide +kernel
theorem dL_law_1648 : decode cL_law 1648 = .ok (.aload_n 0, 1) := by decide +kernel
theorem dL_law_1649 : decode cL_law 1649 = .ok (.iload 5, 2) := by decide +kernel
theorem dL_law_1651 : decode cL_law 1651 = .ok (.iconst 2, 1) := by decide +kernel
theorem dL_law_1652 : decode cL_law 1652 = .ok (.iadd, 1) := by decide +kernel
theorem dL_law_1653 : decode cL_law 1653 = .ok (.iaload, 1) := by decide +kernel
theorem dL_law_1654 : decode cL_law 1654 = .ok (.invokevirtual 204, 3) := by decide +kernel
theorem dL_law_1657 : decode cL_law 1657 = .ok (.istore 7, 2) := by decide +kernel
theorem dL_law_1659 : decode cL_law 1659 = .ok (.aload_n 2, 1) := by decide +kernel
theorem dL_law_1660 : decode cL_law 1660 = .ok (.invokevirtual 118, 3) := by decide +kernel
theorem dL_law_1663 : decode cL_law 1663 = .ok (.iload 6, 2) := by decide +kernel
theorem dL_law_1665 : decode cL_law 1665 = .ok (.if_icmp .eq 5, 3) := by decide +kernel
theorem dL_law_1668 : decode cL_law 1668 = .ok (.iconst 0, 1) := by decide +kernel
theorem dL_law_1669 : decode cL_law 1669 = .ok (.ireturn, 1) := by decide +kernel
theorem dL_law_1670 : decode cL_law 1670 = .ok (.iload 6, 2) := by decide +kernel
theorem dL_law_1672 : decode cL_law 1672 = .ok (.ifCond .ne 22, 3) := by decide +kernel
theorem dL_law_1675 : decode cL_law 1675 = .ok (.aload_n 3, 1) := by decide +kernel
theorem dL_law_1676 : decode cL_law 1676 = .ok (.iconst 0, 1) := by decide +kernel
theorem dL_law_1677 : decode cL_law 1677 = .ok (.laload, 1) := by decide +kernel
theorem dL_law_1678 : decode cL_law 1678 = .ok (.iload 7, 2) := by decide +kernel
theorem dL_law_1680 : decode cL_law 1680 = .ok (.ifCond .eq 7, 3) := by decide +kernel
theorem dL_law_1683 : decode cL_law 1683 = .ok (.lconst 1, 1) := by decide +kernel
theorem dL_law_1684 : decode cL_law 1684 = .ok (.goto 4, 3) := by decide +kernel
theorem dL_law_1687 : decode cL_law 1687 = .ok (.lconst 0, 1) := by decide +kernel
theorem dL_law_1688 : decode cL_law 1688 = .ok (.lcmp, 1) := by decide +kernel
theorem dL_law_1689 : decode cL_law 1689 = .ok (.ifCond .eq 5, 3) := by decide +kernel
theorem dL_law_1692 : decode cL_law 1692 = .ok (.iconst 0, 1) := by decide +kernel
theorem dL_law_1693 : decode cL_law 1693 = .ok (.ireturn, 1) := by decide +kernel
theorem dL_law_1694 : decode cL_law 1694 = .ok (.goto 287, 3) := by decide +kernel
theorem dL_law_1697 : decode cL_law 1697 = .ok (.aload_n 1, 1) := by decide +kernel
theorem dL_law_1698 : decode cL_law 1698 = .ok (.aload_n 0, 1) := by decide +kernel
theorem dL_law_1699 : decode cL_law 1699 = .ok (.iload 5, 2) := by decide +kernel
theorem dL_law_1701 : decode cL_law 1701 = .ok (.iconst 1, 1) := by decide +kernel
theorem dL_law_1702 : decode cL_law 1702 = .ok (.iadd, 1) := by decide +kernel
theorem dL_law_1703 : decode cL_law 1703 = .ok (.iaload, 1) := by decide +kernel
theorem dL_law_1704 : decode cL_law 1704 = .ok (.aload_n 3, 1) := by decide +kernel
theorem dL_law_1705 : decode cL_law 1705 = .ok (.invokestatic 205, 3) := by decide +kernel
theorem dL_law_1708 : decode cL_law 1708 = .ok (.istore 6, 2) := by decide +kernel
theorem dL_law_1710 : decode cL_law 1710 = .ok (.aload_n 2, 1) := by decide +kernel
theorem dL_law_1711 : decode cL_law 1711 = .ok (.aload_n 0, 1) := by decide +kernel
theorem dL_law_1712 : decode cL_law 1712 = .ok (.iload 5, 2) := by decide +kernel
theorem dL_law_1714 : decode cL_law 1714 = .ok (.iconst 1, 1) := by decide +kernel
theorem dL_law_1715 : decode cL_law 1715 = .ok (.iadd, 1) := by decide +kernel
theorem dL_law_1716 : decode cL_law 1716 = .ok (.iaload, 1) := by decide +kernel
theorem dL_law_1717 : decode cL_law 1717 = .ok (.invokevirtual 207, 3) := by decide +kernel
theorem dL_law_1720 : decode cL_law 1720 = .ok (.istore 7, 2) := by decide +kernel
theorem dL_law_1722 : decode cL_law 1722 = .ok (.aload_n 2, 1) := by decide +kernel
theorem dL_law_1723 : decode cL_law 1723 = .ok (.invokevirtual 118, 3) := by decide +kernel
theorem dL_law_1726 : decode cL_law 1726 = .ok (.iload 6, 2) := by decide +kernel
theorem dL_law_1728 : decode cL_law 1728 = .ok (.if_icmp .eq 5, 3) := by decide +kernel
theorem dL_law_1731 : decode cL_law 1731 = .ok (.iconst 0, 1) := by decide +kernel
theorem dL_law_1732 : decode cL_law 1732 = .ok (.ireturn, 1) := by decide +kernel
theorem dL_law_1733 : decode cL_law 1733 = .ok (.iload 6, 2) := by decide +kernel
theorem dL_law_1735 : decode cL_law 1735 = .ok (.ifCond .ne 15, 3) := by decide +kernel
theorem dL_law_1738 : decode cL_law 1738 = .ok (.aload_n 3, 1) := by decide +kernel
theorem dL_law_1739 : decode cL_law 1739 = .ok (.iconst 0, 1) := by decide +kernel
theorem dL_law_1740 : decode cL_law 1740 = .ok (.laload, 1) := by decide +kernel
theorem dL_law_1741 : decode cL_law 1741 = .ok (.iload 7, 2) := by decide +kernel
theorem dL_law_1743 : decode cL_law 1743 = .ok (.i2l, 1) := by decide +kernel
theorem dL_law_1744 : decode cL_law 1744 = .ok (.lcmp, 1) := by decide +kernel
theorem dL_law_1745 : decode cL_law 1745 = .ok (.ifCond .eq 5, 3) := by decide +kernel
theorem dL_law_1748 : decode cL_law 1748 = .ok (.iconst 0, 1) := by decide +kernel
theorem dL_law_1749 : decode cL_law 1749 = .ok (.ireturn, 1) := by decide +kernel
theorem dL_law_1750 : decode cL_law 1750 = .ok (.goto 231, 3) := by decide +kernel
theorem dL_law_1753 : decode cL_law 1753 = .ok (.aload_n 1, 1) := by decide +kernel
theorem dL_law_1754 : decode cL_law 1754 = .ok (.invokevirtual 208, 3) := by decide +kernel
theorem dL_law_1757 : decode cL_law 1757 = .ok (.aload_n 2, 1) := by decide +kernel
theorem dL_law_1758 : decode cL_law 1758 = .ok (.invokevirtual 212, 3) := by decide +kernel
theorem dL_law_1761 : decode cL_law 1761 = .ok (.lcmp, 1) := by decide +kernel
theorem dL_law_1762 : decode cL_law 1762 = .ok (.ifCond .eq 219, 3) := by decide +kernel
theorem dL_law_1765 : decode cL_law 1765 = .ok (.iconst 0, 1) := by decide +kernel
theorem dL_law_1766 : decode cL_law 1766 = .ok (.ireturn, 1) := by decide +kernel
theorem dL_law_1767 : decode cL_law 1767 = .ok (.aload_n 1, 1) := by decide +kernel
theorem dL_law_1768 : decode cL_law 1768 = .ok (.invokevirtual 213, 3) := by decide +kernel
theorem dL_law_1771 : decode cL_law 1771 = .ok (.aload_n 2, 1) := by decide +kernel
theorem dL_law_1772 : decode cL_law 1772 = .ok (.invokevirtual 216, 3) := by decide +kernel
theorem dL_law_1775 : decode cL_law 1775 = .ok (.lcmp, 1) := by decide +kernel
theorem dL_law_1776 : decode cL_law 1776 = .ok (.ifCond .eq 205, 3) := by decide +kernel
theorem dL_law_1779 : decode cL_law 1779 = .ok (.iconst 0, 1) := by decide +kernel
theorem dL_law_1780 : decode cL_law 1780 = .ok (.ireturn, 1) := by decide +kernel
theorem dL_law_1781 : decode cL_law 1781 = .ok (.aload_n 1, 1) := by decide +kernel
theorem dL_law_1782 : decode cL_law 1782 = .ok (.invokevirtual 217, 3) := by decide +kernel
theorem dL_law_1785 : decode cL_law 1785 = .ok (.aload_n 2, 1) := by decide +kernel
theorem dL_law_1786 : decode cL_law 1786 = .ok (.invokevirtual 220, 3) := by decide +kernel
theorem dL_law_1789 : decode cL_law 1789 = .ok (.lcmp, 1) := by decide +kernel
theorem dL_law_1790 : decode cL_law 1790 = .ok (.ifCond .eq 191, 3) := by decide +kernel
theorem dL_law_1793 : decode cL_law 1793 = .ok (.iconst 0, 1) := by decide +kernel
theorem dL_law_1794 : decode cL_law 1794 = .ok (.ireturn, 1) := by decide +kernel
theorem dL_law_1795 : decode cL_law 1795 = .ok (.aload_n 1, 1) := by decide +kernel
theorem dL_law_1796 : decode cL_law 1796 = .ok (.invokevirtual 221, 3) := by decide +kernel
theorem dL_law_1799 : decode cL_law 1799 = .ok (.aload_n 2, 1) := by decide +kernel
theorem dL_law_1800 : decode cL_law 1800 = .ok (.invokevirtual 224, 3) := by decide +kernel
theorem dL_law_1803 : decode cL_law 1803 = .ok (.lcmp, 1) := by decide +kernel
theorem dL_law_1804 : decode cL_law 1804 = .ok (.ifCond .eq 177, 3) := by decide +kernel
theorem dL_law_1807 : decode cL_law 1807 = .ok (.iconst 0, 1) := by decide +kernel
theorem dL_law_1808 : decode cL_law 1808 = .ok (.ireturn, 1) := by decide +kernel
theorem dL_law_1809 : decode cL_law 1809 = .ok (.aload_n 1, 1) := by decide +kernel
theorem dL_law_1810 : decode cL_law 1810 = .ok (.invokevirtual 225, 3) := by decide +kernel
theorem dL_law_1813 : decode cL_law 1813 = .ok (.aload_n 2, 1) := by decide +kernel
theorem dL_law_1814 : decode cL_law 1814 = .ok (.invokevirtual 228, 3) := by decide +kernel
theorem dL_law_1817 : decode cL_law 1817 = .ok (.lcmp, 1) := by decide +kernel
theorem dL_law_1818 : decode cL_law 1818 = .ok (.ifCond .eq 163, 3) := by decide +kernel
theorem dL_law_1821 : decode cL_law 1821 = .ok (.iconst 0, 1) := by decide +kernel
theorem dL_law_1822 : decode cL_law 1822 = .ok (.ireturn, 1) := by decide +kernel
theorem dL_law_1823 : decode cL_law 1823 = .ok (.aload_n 1, 1) := by decide +kernel
theorem dL_law_1824 : decode cL_law 1824 = .ok (.invokevirtual 229, 3) := by decide +kernel
theorem dL_law_1827 : decode cL_law 1827 = .ok (.aload_n 2, 1) := by decide +kernel
theorem dL_law_1828 : decode cL_law 1828 = .ok (.invokevirtual 232, 3) := by decide +kernel
theorem dL_law_1831 : decode cL_law 1831 = .ok (.lcmp, 1) := by decide +kernel
theorem dL_law_1832 : decode cL_law 1832 = .ok (.ifCond .eq 149, 3) := by decide +kernel
theorem dL_law_1835 : decode cL_law 1835 = .ok (.iconst 0, 1) := by decide +kernel
theorem dL_law_1836 : decode cL_law 1836 = .ok (.ireturn, 1) := by decide +kernel
theorem dL_law_1837 : decode cL_law 1837 = .ok (.aload_n 1, 1) := by decide +kernel
theorem dL_law_1838 : decode cL_law 1838 = .ok (.invokevirtual 233, 3) := by decide +kernel
theorem dL_law_1841 : decode cL_law 1841 = .ok (.aload_n 2, 1) := by decide +kernel
theorem dL_law_1842 : decode cL_law 1842 = .ok (.invokevirtual 237, 3) := by decide +kernel
theorem dL_law_1845 : decode cL_law 1845 = .ok (.if_icmp .eq 136, 3) := by decide +kernel
theorem dL_law_1848 : decode cL_law 1848 = .ok (.iconst 0, 1) := by decide +kernel
theorem dL_law_1849 : decode cL_law 1849 = .ok (.ireturn, 1) := by decide +kernel
theorem dL_law_1850 : decode cL_law 1850 = .ok (.aload_n 1, 1) := by decide +kernel
theorem dL_law_1851 : decode cL_law 1851 = .ok (.aload 4, 2) := by decide +kernel
theorem dL_law_1853 : decode cL_law 1853 = .ok (.invokestatic 238, 3) := by decide +kernel
theorem dL_law_1856 : decode cL_law 1856 = .ok (.istore 6, 2) := by decide +kernel
theorem dL_law_1858 : decode cL_law 1858 = .ok (.aload_n 2, 1) := by decide +kernel
theorem dL_law_1859 : decode cL_law 1859 = .ok (.invokevirtual 241, 3) := by decide +kernel
theorem dL_law_1862 : decode cL_law 1862 = .ok (.fstore 7, 2) := by decide +kernel
theorem dL_law_1864 : decode cL_law 1864 = .ok (.aload_n 2, 1) := by decide +kernel
theorem dL_law_1865 : decode cL_law 1865 = .ok (.invokevirtual 118, 3) := by decide +kernel
theorem dL_law_1868 : decode cL_law 1868 = .ok (.iload 6, 2) := by decide +kernel
theorem dL_law_1870 : decode cL_law 1870 = .ok (.if_icmp .eq 5, 3) := by decide +kernel
theorem dL_law_1873 : decode cL_law 1873 = .ok (.iconst 0, 1) := by decide +kernel
theorem dL_law_1874 : decode cL_law 1874 = .ok (.ireturn, 1) := by decide +kernel
theorem dL_law_1875 : decode cL_law 1875 = .ok (.iload 6, 2) := by decide +kernel
theorem dL_law_1877 : decode cL_law 1877 = .ok (.ifCond .ne 36, 3) := by decide +kernel
theorem dL_law_1880 : decode cL_law 1880 = .ok (.aload 4, 2) := by decide +kernel
theorem dL_law_1882 : decode cL_law 1882 = .ok (.iconst 0, 1) := by decide +kernel
theorem dL_law_1883 : decode cL_law 1883 = .ok (.daload, 1) := by decide +kernel
theorem dL_law_1884 : decode cL_law 1884 = .ok (.fload 7, 2) := by decide +kernel
theorem dL_law_1886 : decode cL_law 1886 = .ok (.f2d, 1) := by decide +kernel
theorem dL_law_1887 : decode cL_law 1887 = .ok (.dcmp .l, 1) := by decide +kernel
theorem dL_law_1888 : decode cL_law 1888 = .ok (.ifCond .eq 25, 3) := by decide +kernel
theorem dL_law_1891 : decode cL_law 1891 = .ok (.aload 4, 2) := by decide +kernel
theorem dL_law_1893 : decode cL_law 1893 = .ok (.iconst 0, 1) := by decide +kernel
theorem dL_law_1894 : decode cL_law 1894 = .ok (.daload, 1) := by decide +kernel
theorem dL_law_1895 : decode cL_law 1895 = .ok (.aload 4, 2) := by decide +kernel
theorem dL_law_1897 : decode cL_law 1897 = .ok (.iconst 0, 1) := by decide +kernel
theorem dL_law_1898 : decode cL_law 1898 = .ok (.daload, 1) := by decide +kernel
theorem dL_law_1899 : decode cL_law 1899 = .ok (.dcmp .l, 1) := by decide +kernel
theorem dL_law_1900 : decode cL_law 1900 = .ok (.ifCond .eq 11, 3) := by decide +kernel
theorem dL_law_1903 : decode cL_law 1903 = .ok (.fload 7, 2) := by decide +kernel
theorem dL_law_1905 : decode cL_law 1905 = .ok (.fload 7, 2) := by decide +kernel
theorem dL_law_1907 : decode cL_law 1907 = .ok (.fcmp .l, 1) := by decide +kernel
theorem dL_law_1908 : decode cL_law 1908 = .ok (.ifCond .ne 5, 3) := by decide +kernel
theorem dL_law_1911 : decode cL_law 1911 = .ok (.iconst 0, 1) := by decide +kernel
theorem dL_law_1912 : decode cL_law 1912 = .ok (.ireturn, 1) := by decide +kernel
theorem dL_law_1913 : decode cL_law 1913 = .ok (.goto 68, 3) := by decide +kernel
theorem dL_law_1916 : decode cL_law 1916 = .ok (.aload_n 1, 1) := by decide +kernel
theorem dL_law_1917 : decode cL_law 1917 = .ok (.aload 4, 2) := by decide +kernel
theorem dL_law_1919 : decode cL_law 1919 = .ok (.invokestatic 242, 3) := by decide +kernel
theorem dL_law_1922 : decode cL_law 1922 = .ok (.istore 6, 2) := by decide +kernel
theorem dL_law_1924 : decode cL_law 1924 = .ok (.aload_n 2, 1) := by decide +kernel
theorem dL_law_1925 : decode cL_law 1925 = .ok (.invokevirtual 244, 3) := by decide +kernel
theorem dL_law_1928 : decode cL_law 1928 = .ok (.dstore 7, 2) := by decide +kernel
theorem dL_law_1930 : decode cL_law 1930 = .ok (.aload_n 2, 1) := by decide +kernel
theorem dL_law_1931 : decode cL_law 1931 = .ok (.invokevirtual 118, 3) := by decide +kernel
theorem dL_law_1934 : decode cL_law 1934 = .ok (.iload 6, 2) := by decide +kernel
theorem dL_law_1936 : decode cL_law 1936 = .ok (.if_icmp .eq 5, 3) := by decide +kernel
theorem dL_law_1939 : decode cL_law 1939 = .ok (.iconst 0, 1) := by decide +kernel
theorem dL_law_1940 : decode cL_law 1940 = .ok (.ireturn, 1) := by decide +kernel
theorem dL_law_1941 : decode cL_law 1941 = .ok (.iload 6, 2) := by decide +kernel
theorem dL_law_1943 : decode cL_law 1943 = .ok (.ifCond .ne 35, 3) := by decide +kernel
theorem dL_law_1946 : decode cL_law 1946 = .ok (.aload 4, 2) := by decide +kernel
theorem dL_law_1948 : decode cL_law 1948 = .ok (.iconst 0, 1) := by decide +kernel
theorem dL_law_1949 : decode cL_law 1949 = .ok (.daload, 1) := by decide +kernel
theorem dL_law_1950 : decode cL_law 1950 = .ok (.dload 7, 2) := by decide +kernel
theorem dL_law_1952 : decode cL_law 1952 = .ok (.dcmp .l, 1) := by decide +kernel
theorem dL_law_1953 : decode cL_law 1953 = .ok (.ifCond .eq 25, 3) := by decide +kernel
theorem dL_law_1956 : decode cL_law 1956 = .ok (.aload 4, 2) := by decide +kernel
theorem dL_law_1958 : decode cL_law 1958 = .ok (.iconst 0, 1) := by decide +kernel
theorem dL_law_1959 : decode cL_law 1959 = .ok (.daload, 1) := by decide +kernel
theorem dL_law_1960 : decode cL_law 1960 = .ok (.aload 4, 2) := by decide +kernel
theorem dL_law_1962 : decode cL_law 1962 = .ok (.iconst 0, 1) := by decide +kernel
theorem dL_law_1963 : decode cL_law 1963 = .ok (.daload, 1) := by decide +kernel
theorem dL_law_1964 : decode cL_law 1964 = .ok (.dcmp .l, 1) := by decide +kernel
theorem dL_law_1965 : decode cL_law 1965 = .ok (.ifCond .eq 11, 3) := by decide +kernel
theorem dL_law_1968 : decode cL_law 1968 = .ok (.dload 7, 2) := by decide +kernel
theorem dL_law_1970 : decode cL_law 1970 = .ok (.dload 7, 2) := by decide +kernel
theorem dL_law_1972 : decode cL_law 1972 = .ok (.dcmp .l, 1) := by decide +kernel
theorem dL_law_1973 : decode cL_law 1973 = .ok (.ifCond .ne 5, 3) := by decide +kernel
theorem dL_law_1976 : decode cL_law 1976 = .ok (.iconst 0, 1) := by decide +kernel
theorem dL_law_1977 : decode cL_law 1977 = .ok (.ireturn, 1) := by decide +kernel
theorem dL_law_1978 : decode cL_law 1978 = .ok (.goto 3, 3) := by decide +kernel
theorem dL_law_1981 : decode cL_law 1981 = .ok (.iinc 5 5, 3) := by decide +kernel
theorem dL_law_1984 : decode cL_law 1984 = .ok (.goto (-1956), 3) := by decide +kernel
theorem dL_law_1987 : decode cL_law 1987 = .ok (.iconst 1, 1) := by decide +kernel
theorem dL_law_1988 : decode cL_law 1988 = .ok (.ireturn, 1) := by decide +kernel
end
section
/-! the words of the tables that every method may use, in one list; each by its place -/
def AW : List Cond := lw_tbl.filter goodWord
abbrev ws_ (y : MethodName) (cc : ByteArray) (n : Nat) (ret : Option FieldType) : List Cond := Cond.code y cc n ret :: AW
theorem AW_tbl {w : Cond} (h : w ∈ AW) : w ∈ lw_tbl := (List.mem_filter.mp h).1
theorem AW_good {w : Cond} (h : w ∈ AW) : goodWord w = true := (List.mem_filter.mp h).2
theorem AW_in {w : Cond} (i : Nat) (h : lw_tbl[i]? = some w) (g : goodWord w = true) : w ∈ AW := List.mem_filter.mpr ⟨List.mem_of_getElem? h, g⟩
theorem qs0 : Cond.selects "MembranePlant" (⟨"MembranePlant", "passPresent", "(Z)V"⟩ : MethodName) (⟨"MembranePlant", "passPresent", "(Z)V"⟩ : MethodName) ∈ AW := AW_in 0 (by decide +kernel) rfl
theorem qs1 : Cond.selects "MembranePlant$State" (⟨"MembranePlant$State", "goOnCleaning", "(I)V"⟩ : MethodName) (⟨"MembranePlant$State", "goOnCleaning", "(I)V"⟩ : MethodName) ∈ AW := AW_in 1 (by decide +kernel) rfl
theorem qs2 : Cond.selects "MembranePlant$State" (⟨"MembranePlant$State", "runTrain", "(LMembranePlant$Settings;I)I"⟩ : MethodName) (⟨"MembranePlant$State", "runTrain", "(LMembranePlant$Settings;I)I"⟩ : MethodName) ∈ AW := AW_in 2 (by decide +kernel) rfl
theorem qs3 : Cond.selects "MembranePlant$State" (⟨"MembranePlant$State", "pour", "(LMembranePlant$Settings;)V"⟩ : MethodName) (⟨"MembranePlant$State", "pour", "(LMembranePlant$Settings;)V"⟩ : MethodName) ∈ AW := AW_in 3 (by decide +kernel) rfl
theorem qs4 : Cond.selects "MembranePlant$State" (⟨"MembranePlant$State", "serve", "(LMembranePlant$Settings;I)V"⟩ : MethodName) (⟨"MembranePlant$State", "serve", "(LMembranePlant$Settings;I)V"⟩ : MethodName) ∈ AW := AW_in 4 (by decide +kernel) rfl
theorem qs5 : Cond.selects "MembranePlant$Orders" (⟨"MembranePlant$Orders", "find", "(I)I"⟩ : MethodName) (⟨"MembranePlant$Orders", "find", "(I)I"⟩ : MethodName) ∈ AW := AW_in 5 (by decide +kernel) rfl
theorem qs6 : Cond.selects "java/lang/Throwable" (⟨"java/lang/Throwable", "fillInStackTrace", "(I)Ljava/lang/Throwable;"⟩ : MethodName) (⟨"java/lang/Throwable", "fillInStackTrace", "(I)Ljava/lang/Throwable;"⟩ : MethodName) ∈ AW := AW_in 6 (by decide +kernel) rfl
theorem qs7 : Cond.selects "MembranePlant" (⟨"MembranePlant", "checkTrain", "(I)V"⟩ : MethodName) (⟨"MembranePlant", "checkTrain", "(I)V"⟩ : MethodName) ∈ AW := AW_in 7 (by decide +kernel) rfl
theorem qs8 : Cond.selects "MembranePlant" (⟨"MembranePlant", "checkReady", "(I)V"⟩ : MethodName) (⟨"MembranePlant", "checkReady", "(I)V"⟩ : MethodName) ∈ AW := AW_in 8 (by decide +kernel) rfl
theorem qs9 : Cond.selects "MembranePlant" (⟨"MembranePlant", "checkTank", "(I)V"⟩ : MethodName) (⟨"MembranePlant", "checkTank", "(I)V"⟩ : MethodName) ∈ AW := AW_in 9 (by decide +kernel) rfl
theorem qs10 : Cond.selects "MembranePlant$Planner" (⟨"MembranePlant$Planner", "isAsOrdered", "(II)Z"⟩ : MethodName) (⟨"MembranePlant$Planner", "isAsOrdered", "(II)Z"⟩ : MethodName) ∈ AW := AW_in 10 (by decide +kernel) rfl
theorem qs11 : Cond.selects "MembranePlant$Planner" (⟨"MembranePlant$Planner", "canPass", "(II)Z"⟩ : MethodName) (⟨"MembranePlant$Planner", "canPass", "(II)Z"⟩ : MethodName) ∈ AW := AW_in 11 (by decide +kernel) rfl
theorem qs12 : Cond.selects "MembranePlantModel" (⟨"MembranePlantModel", "isTrain", "(I)Z"⟩ : MethodName) (⟨"MembranePlantModel", "isTrain", "(I)Z"⟩ : MethodName) ∈ AW := AW_in 12 (by decide +kernel) rfl
theorem qs13 : Cond.selects "MembranePlantModel" (⟨"MembranePlantModel", "of", "(II)I"⟩ : MethodName) (⟨"MembranePlantModel", "of", "(II)I"⟩ : MethodName) ∈ AW := AW_in 13 (by decide +kernel) rfl
theorem qs14 : Cond.selects "MembranePlantModel" (⟨"MembranePlantModel", "gives", "(I)I"⟩ : MethodName) (⟨"MembranePlantModel", "gives", "(I)I"⟩ : MethodName) ∈ AW := AW_in 14 (by decide +kernel) rfl
theorem qs15 : Cond.selects "MembranePlantModel" (⟨"MembranePlantModel", "needs", "(I)I"⟩ : MethodName) (⟨"MembranePlantModel", "needs", "(I)I"⟩ : MethodName) ∈ AW := AW_in 15 (by decide +kernel) rfl
theorem qs16 : Cond.selects "MembranePlantModel" (⟨"MembranePlantModel", "takes", "(I)I"⟩ : MethodName) (⟨"MembranePlantModel", "takes", "(I)I"⟩ : MethodName) ∈ AW := AW_in 16 (by decide +kernel) rfl
theorem qs17 : Cond.selects "MembranePlantModel" (⟨"MembranePlantModel", "isTank", "(I)Z"⟩ : MethodName) (⟨"MembranePlantModel", "isTank", "(I)Z"⟩ : MethodName) ∈ AW := AW_in 17 (by decide +kernel) rfl
theorem qs18 : Cond.selects "MembranePlantModel" (⟨"MembranePlantModel", "passes", "(Z)V"⟩ : MethodName) (⟨"MembranePlantModel", "passes", "(Z)V"⟩ : MethodName) ∈ AW := AW_in 18 (by decide +kernel) rfl
theorem qs19 : Cond.selects "MembranePlantModel" (⟨"MembranePlantModel", "goes", "(IZ)Z"⟩ : MethodName) (⟨"MembranePlantModel", "goes", "(IZ)Z"⟩ : MethodName) ∈ AW := AW_in 19 (by decide +kernel) rfl
theorem qs20 : Cond.selects "MembranePlantModel" (⟨"MembranePlantModel", "cleans", "(I)V"⟩ : MethodName) (⟨"MembranePlantModel", "cleans", "(I)V"⟩ : MethodName) ∈ AW := AW_in 20 (by decide +kernel) rfl
theorem qs21 : Cond.selects "MembranePlantModel" (⟨"MembranePlantModel", "works", "(I)V"⟩ : MethodName) (⟨"MembranePlantModel", "works", "(I)V"⟩ : MethodName) ∈ AW := AW_in 21 (by decide +kernel) rfl
theorem qs22 : Cond.selects "MembranePlantModel" (⟨"MembranePlantModel", "orderAt", "(I)I"⟩ : MethodName) (⟨"MembranePlantModel", "orderAt", "(I)I"⟩ : MethodName) ∈ AW := AW_in 22 (by decide +kernel) rfl
theorem qs23 : Cond.selects "MembranePlantModel" (⟨"MembranePlantModel", "forgets", "(I)V"⟩ : MethodName) (⟨"MembranePlantModel", "forgets", "(I)V"⟩ : MethodName) ∈ AW := AW_in 23 (by decide +kernel) rfl
theorem qs24 : Cond.selects "MembranePlantModel" (⟨"MembranePlantModel", "looks", "(I)V"⟩ : MethodName) (⟨"MembranePlantModel", "looks", "(I)V"⟩ : MethodName) ∈ AW := AW_in 24 (by decide +kernel) rfl
theorem qs25 : Cond.selects "MembranePlantModel" (⟨"MembranePlantModel", "laysBack", "([I[I)V"⟩ : MethodName) (⟨"MembranePlantModel", "laysBack", "([I[I)V"⟩ : MethodName) ∈ AW := AW_in 25 (by decide +kernel) rfl
theorem qs26 : Cond.selects "MembranePlantModel" (⟨"MembranePlantModel", "isAllowed", "(II)Z"⟩ : MethodName) (⟨"MembranePlantModel", "isAllowed", "(II)Z"⟩ : MethodName) ∈ AW := AW_in 26 (by decide +kernel) rfl
theorem q0 : (Jvm.Cond.initialized "MembranePlantLaw") ∈ AW := AW_in 27 (by decide +kernel) rfl
theorem q1 : (Jvm.Cond.initialized "MembranePlant") ∈ AW := AW_in 28 (by decide +kernel) rfl
theorem q2 : (Jvm.Cond.initialized "MembranePlant$Settings") ∈ AW := AW_in 29 (by decide +kernel) rfl
theorem q3 : (Jvm.Cond.initialized "java/util/Arrays") ∈ AW := AW_in 30 (by decide +kernel) rfl
theorem q4 : (Jvm.Cond.initialized "MembranePlant$State") ∈ AW := AW_in 31 (by decide +kernel) rfl
theorem q5 : (Jvm.Cond.initialized "MembranePlant$Orders") ∈ AW := AW_in 32 (by decide +kernel) rfl
theorem q6 : (Jvm.Cond.initialized "MembranePlant$Planner") ∈ AW := AW_in 33 (by decide +kernel) rfl
theorem q7 : (Jvm.Cond.initialized "MembranePlant$Meters") ∈ AW := AW_in 34 (by decide +kernel) rfl
theorem q8 : (Jvm.Cond.initialized "MembranePlantModel") ∈ AW := AW_in 35 (by decide +kernel) rfl
theorem q9 : (Jvm.Cond.initialized "java/lang/Throwable") ∈ AW := AW_in 36 (by decide +kernel) rfl
theorem q10 : (Jvm.Cond.initialized "java/lang/Exception") ∈ AW := AW_in 37 (by decide +kernel) rfl
theorem q11 : (Jvm.Cond.initialized "java/lang/RuntimeException") ∈ AW := AW_in 38 (by decide +kernel) rfl
theorem q12 : (Jvm.Cond.initialized "java/lang/IllegalArgumentException") ∈ AW := AW_in 39 (by decide +kernel) rfl
theorem q13 : (Jvm.Cond.initialized "java/lang/IllegalStateException") ∈ AW := AW_in 40 (by decide +kernel) rfl
theorem q14 : (Jvm.Cond.initialized "java/lang/IndexOutOfBoundsException") ∈ AW := AW_in 41 (by decide +kernel) rfl
theorem q15 : (Jvm.Cond.initialized "java/lang/ArrayIndexOutOfBoundsException") ∈ AW := AW_in 42 (by decide +kernel) rfl
theorem q16 : (Jvm.Cond.initialized "java/lang/String") ∈ AW := AW_in 43 (by decide +kernel) rfl
theorem q17 : (Jvm.Cond.initialized "java/lang/UnsupportedOperationException") ∈ AW := AW_in 44 (by decide +kernel) rfl
theorem q18 : (Jvm.Cond.initialized "java/lang/Math") ∈ AW := AW_in 45 (by decide +kernel) rfl
theorem q19 : (Jvm.Cond.initialized "java/lang/System") ∈ AW := AW_in 46 (by decide +kernel) rfl
theorem q20 : (Jvm.Cond.initialized "java/util/NoSuchElementException") ∈ AW := AW_in 47 (by decide +kernel) rfl
theorem q21 : (Jvm.Cond.initialized "java/lang/ArithmeticException") ∈ AW := AW_in 48 (by decide +kernel) rfl
theorem q22 : (Jvm.Cond.classLink "MembranePlantLaw" (8 : Nat) "MembranePlant") ∈ AW := AW_in 49 (by decide +kernel) rfl
theorem q23 : (Jvm.Cond.instantiable "MembranePlant" (7 : Nat)) ∈ AW := AW_in 50 (by decide +kernel) rfl
theorem q24 : (Jvm.Cond.methodLink "MembranePlantLaw" (108 : Nat) ({ cls := "MembranePlant", name := "<init>", desc := "()V" } : Jvm.MethodName)) ∈ AW := AW_in 51 (by decide +kernel) rfl
theorem q25 : (Jvm.Cond.instanceMethod ({ cls := "MembranePlant", name := "<init>", desc := "()V" } : Jvm.MethodName)) ∈ AW := AW_in 52 (by decide +kernel) rfl
theorem q26 : (Jvm.Cond.code ({ cls := "MembranePlant", name := "<init>", desc := "()V" } : Jvm.MethodName) prog_1_method_1_code (1 : Nat) (Option.none : Option Jvm.ClassFile.FieldType)) ∈ AW := AW_in 53 (by decide +kernel) rfl
theorem q27 : (Jvm.Cond.methodLink "MembranePlant" (1 : Nat) ({ cls := "java/lang/Object", name := "<init>", desc := "()V" } : Jvm.MethodName)) ∈ AW := AW_in 54 (by decide +kernel) rfl
theorem q28 : (Jvm.Cond.instanceMethod ({ cls := "java/lang/Object", name := "<init>", desc := "()V" } : Jvm.MethodName)) ∈ AW := AW_in 55 (by decide +kernel) rfl
theorem q29 : (Jvm.Cond.code ({ cls := "java/lang/Object", name := "<init>", desc := "()V" } : Jvm.MethodName) object_method_1_code (1 : Nat) (Option.none : Option Jvm.ClassFile.FieldType)) ∈ AW := AW_in 56 (by decide +kernel) rfl
theorem q30 : (Jvm.Cond.classLink "MembranePlant" (7 : Nat) "MembranePlant$Settings") ∈ AW := AW_in 57 (by decide +kernel) rfl
theorem q31 : (Jvm.Cond.instantiable "MembranePlant$Settings" (9 : Nat)) ∈ AW := AW_in 58 (by decide +kernel) rfl
theorem q32 : (Jvm.Cond.methodLink "MembranePlant" (9 : Nat) ({ cls := "MembranePlant$Settings", name := "<init>", desc := "()V" } : Jvm.MethodName)) ∈ AW := AW_in 59 (by decide +kernel) rfl
theorem q33 : (Jvm.Cond.instanceMethod ({ cls := "MembranePlant$Settings", name := "<init>", desc := "()V" } : Jvm.MethodName)) ∈ AW := AW_in 60 (by decide +kernel) rfl
theorem q34 : (Jvm.Cond.code ({ cls := "MembranePlant$Settings", name := "<init>", desc := "()V" } : Jvm.MethodName) prog_5_method_1_code (1 : Nat) (Option.none : Option Jvm.ClassFile.FieldType)) ∈ AW := AW_in 61 (by decide +kernel) rfl
theorem q35 : (Jvm.Cond.methodLink "MembranePlant$Settings" (3 : Nat) ({ cls := "java/lang/Object", name := "<init>", desc := "()V" } : Jvm.MethodName)) ∈ AW := AW_in 62 (by decide +kernel) rfl
theorem q36 : (Jvm.Cond.classLink "MembranePlant$Settings" (21 : Nat) "[[I") ∈ AW := AW_in 63 (by decide +kernel) rfl
theorem q38 : (Jvm.Cond.methodLink "MembranePlant$Settings" (29 : Nat) ({ cls := "java/util/Arrays", name := "fill", desc := "([II)V" } : Jvm.MethodName)) ∈ AW := AW_in 65 (by decide +kernel) rfl
theorem q39 : (Jvm.Cond.static ({ cls := "java/util/Arrays", name := "fill", desc := "([II)V" } : Jvm.MethodName)) ∈ AW := AW_in 66 (by decide +kernel) rfl
theorem q40 : (Jvm.Cond.code ({ cls := "java/util/Arrays", name := "fill", desc := "([II)V" } : Jvm.MethodName) prog_22_method_103_code (4 : Nat) (Option.none : Option Jvm.ClassFile.FieldType)) ∈ AW := AW_in 67 (by decide +kernel) rfl
theorem q41 : (Jvm.Cond.fieldLink "MembranePlant$Settings" (9 : Nat) "MembranePlant$Settings" "areas" "[I") ∈ AW := AW_in 68 (by decide +kernel) rfl
theorem q42 : (Jvm.Cond.fieldLink "MembranePlant" (67 : Nat) "MembranePlant$Settings" "areas" "[I") ∈ AW := AW_in 69 (by decide +kernel) rfl
theorem q43 : (Jvm.Cond.fieldLink "MembranePlant$Settings" (15 : Nat) "MembranePlant$Settings" "pressures" "[I") ∈ AW := AW_in 70 (by decide +kernel) rfl
theorem q44 : (Jvm.Cond.fieldLink "MembranePlant" (71 : Nat) "MembranePlant$Settings" "pressures" "[I") ∈ AW := AW_in 71 (by decide +kernel) rfl
theorem q45 : (Jvm.Cond.fieldLink "MembranePlant$Settings" (18 : Nat) "MembranePlant$Settings" "capacities" "[I") ∈ AW := AW_in 72 (by decide +kernel) rfl
theorem q46 : (Jvm.Cond.fieldLink "MembranePlant$State" (92 : Nat) "MembranePlant$Settings" "capacities" "[I") ∈ AW := AW_in 73 (by decide +kernel) rfl
theorem q47 : (Jvm.Cond.fieldLink "MembranePlant" (124 : Nat) "MembranePlant$Settings" "capacities" "[I") ∈ AW := AW_in 74 (by decide +kernel) rfl
theorem q48 : (Jvm.Cond.fieldLink "MembranePlant$Settings" (23 : Nat) "MembranePlant$Settings" "demands" "[[I") ∈ AW := AW_in 75 (by decide +kernel) rfl
theorem q49 : (Jvm.Cond.fieldLink "MembranePlant$State" (104 : Nat) "MembranePlant$Settings" "demands" "[[I") ∈ AW := AW_in 76 (by decide +kernel) rfl
theorem q50 : (Jvm.Cond.fieldLink "MembranePlant" (134 : Nat) "MembranePlant$Settings" "demands" "[[I") ∈ AW := AW_in 77 (by decide +kernel) rfl
theorem q51 : (Jvm.Cond.fieldLink "MembranePlant$Settings" (26 : Nat) "MembranePlant$Settings" "prices" "[I") ∈ AW := AW_in 78 (by decide +kernel) rfl
theorem q52 : (Jvm.Cond.fieldLink "MembranePlant$State" (56 : Nat) "MembranePlant$Settings" "prices" "[I") ∈ AW := AW_in 79 (by decide +kernel) rfl
theorem q53 : (Jvm.Cond.fieldLink "MembranePlant" (142 : Nat) "MembranePlant$Settings" "prices" "[I") ∈ AW := AW_in 80 (by decide +kernel) rfl
theorem q54 : (Jvm.Cond.fieldLink "MembranePlant" (57 : Nat) "MembranePlant$Settings" "trains" "I") ∈ AW := AW_in 81 (by decide +kernel) rfl
theorem q55 : (Jvm.Cond.fieldLink "MembranePlant$State" (43 : Nat) "MembranePlant$Settings" "trains" "I") ∈ AW := AW_in 82 (by decide +kernel) rfl
theorem q56 : (Jvm.Cond.fieldLink "MembranePlant$State" (89 : Nat) "MembranePlant$Settings" "tanks" "I") ∈ AW := AW_in 83 (by decide +kernel) rfl
theorem q57 : (Jvm.Cond.fieldLink "MembranePlant" (87 : Nat) "MembranePlant$Settings" "tanks" "I") ∈ AW := AW_in 84 (by decide +kernel) rfl
theorem q58 : (Jvm.Cond.fieldLink "MembranePlant$Settings" (35 : Nat) "MembranePlant$Settings" "salinity" "I") ∈ AW := AW_in 85 (by decide +kernel) rfl
theorem q59 : (Jvm.Cond.fieldLink "MembranePlant" (78 : Nat) "MembranePlant$Settings" "salinity" "I") ∈ AW := AW_in 86 (by decide +kernel) rfl
theorem q60 : (Jvm.Cond.fieldLink "MembranePlant$Settings" (39 : Nat) "MembranePlant$Settings" "recovery" "I") ∈ AW := AW_in 87 (by decide +kernel) rfl
theorem q61 : (Jvm.Cond.fieldLink "MembranePlant" (81 : Nat) "MembranePlant$Settings" "recovery" "I") ∈ AW := AW_in 88 (by decide +kernel) rfl
theorem q81 : (Jvm.Cond.arrayClass Jvm.ClassFile.FieldType.int) ∈ AW := AW_in 108 (by decide +kernel) rfl
theorem q82 : (Jvm.Cond.classLink "MembranePlant" (16 : Nat) "MembranePlant$State") ∈ AW := AW_in 109 (by decide +kernel) rfl
theorem q83 : (Jvm.Cond.instantiable "MembranePlant$State" (13 : Nat)) ∈ AW := AW_in 110 (by decide +kernel) rfl
theorem q85 : (Jvm.Cond.instanceMethod ({ cls := "MembranePlant$State", name := "<init>", desc := "()V" } : Jvm.MethodName)) ∈ AW := AW_in 112 (by decide +kernel) rfl
theorem q86 : (Jvm.Cond.code ({ cls := "MembranePlant$State", name := "<init>", desc := "()V" } : Jvm.MethodName) prog_6_method_1_code (1 : Nat) (Option.none : Option Jvm.ClassFile.FieldType)) ∈ AW := AW_in 113 (by decide +kernel) rfl
theorem q87 : (Jvm.Cond.methodLink "MembranePlant$State" (3 : Nat) ({ cls := "java/lang/Object", name := "<init>", desc := "()V" } : Jvm.MethodName)) ∈ AW := AW_in 114 (by decide +kernel) rfl
theorem q88 : (Jvm.Cond.fieldLink "MembranePlant$State" (9 : Nat) "MembranePlant$State" "fouling" "[I") ∈ AW := AW_in 115 (by decide +kernel) rfl
theorem q89 : (Jvm.Cond.fieldLink "MembranePlant" (105 : Nat) "MembranePlant$State" "fouling" "[I") ∈ AW := AW_in 116 (by decide +kernel) rfl
theorem q90 : (Jvm.Cond.fieldLink "MembranePlant$State" (15 : Nat) "MembranePlant$State" "wear" "[I") ∈ AW := AW_in 117 (by decide +kernel) rfl
theorem q91 : (Jvm.Cond.fieldLink "MembranePlant" (108 : Nat) "MembranePlant$State" "wear" "[I") ∈ AW := AW_in 118 (by decide +kernel) rfl
theorem q92 : (Jvm.Cond.fieldLink "MembranePlant$State" (18 : Nat) "MembranePlant$State" "left" "[I") ∈ AW := AW_in 119 (by decide +kernel) rfl
theorem q93 : (Jvm.Cond.fieldLink "MembranePlant" (102 : Nat) "MembranePlant$State" "left" "[I") ∈ AW := AW_in 120 (by decide +kernel) rfl
theorem q94 : (Jvm.Cond.fieldLink "MembranePlant$State" (21 : Nat) "MembranePlant$State" "levels" "[I") ∈ AW := AW_in 121 (by decide +kernel) rfl
theorem q95 : (Jvm.Cond.fieldLink "MembranePlant" (90 : Nat) "MembranePlant$State" "levels" "[I") ∈ AW := AW_in 122 (by decide +kernel) rfl
theorem q96 : (Jvm.Cond.fieldLink "MembranePlant$State" (24 : Nat) "MembranePlant$State" "missing" "[I") ∈ AW := AW_in 123 (by decide +kernel) rfl
theorem q97 : (Jvm.Cond.fieldLink "MembranePlant$Meters" (54 : Nat) "MembranePlant$State" "missing" "[I") ∈ AW := AW_in 124 (by decide +kernel) rfl
theorem q98 : (Jvm.Cond.fieldLink "MembranePlant$Meters" (27 : Nat) "MembranePlant$State" "product" "I") ∈ AW := AW_in 125 (by decide +kernel) rfl
theorem q99 : (Jvm.Cond.fieldLink "MembranePlant$State" (33 : Nat) "MembranePlant$State" "product" "I") ∈ AW := AW_in 126 (by decide +kernel) rfl
theorem q100 : (Jvm.Cond.fieldLink "MembranePlant" (152 : Nat) "MembranePlant$State" "product" "I") ∈ AW := AW_in 127 (by decide +kernel) rfl
theorem q101 : (Jvm.Cond.fieldLink "MembranePlant$Meters" (19 : Nat) "MembranePlant$State" "feed" "I") ∈ AW := AW_in 128 (by decide +kernel) rfl
theorem q102 : (Jvm.Cond.fieldLink "MembranePlant$State" (37 : Nat) "MembranePlant$State" "feed" "I") ∈ AW := AW_in 129 (by decide +kernel) rfl
theorem q103 : (Jvm.Cond.fieldLink "MembranePlant$Meters" (32 : Nat) "MembranePlant$State" "brine" "I") ∈ AW := AW_in 130 (by decide +kernel) rfl
theorem q104 : (Jvm.Cond.fieldLink "MembranePlant$State" (40 : Nat) "MembranePlant$State" "brine" "I") ∈ AW := AW_in 131 (by decide +kernel) rfl
theorem q105 : (Jvm.Cond.fieldLink "MembranePlant$Meters" (42 : Nat) "MembranePlant$State" "cost" "I") ∈ AW := AW_in 132 (by decide +kernel) rfl
theorem q106 : (Jvm.Cond.fieldLink "MembranePlant$State" (59 : Nat) "MembranePlant$State" "cost" "I") ∈ AW := AW_in 133 (by decide +kernel) rfl
theorem q107 : (Jvm.Cond.fieldLink "MembranePlant$Planner" (80 : Nat) "MembranePlant$State" "cost" "I") ∈ AW := AW_in 134 (by decide +kernel) rfl
theorem q108 : (Jvm.Cond.fieldLink "MembranePlant$Meters" (37 : Nat) "MembranePlant$State" "spilled" "I") ∈ AW := AW_in 135 (by decide +kernel) rfl
theorem q109 : (Jvm.Cond.fieldLink "MembranePlant$State" (95 : Nat) "MembranePlant$State" "spilled" "I") ∈ AW := AW_in 136 (by decide +kernel) rfl
theorem q110 : (Jvm.Cond.fieldLink "MembranePlant$Meters" (47 : Nat) "MembranePlant$State" "served" "I") ∈ AW := AW_in 137 (by decide +kernel) rfl
theorem q111 : (Jvm.Cond.fieldLink "MembranePlant$State" (98 : Nat) "MembranePlant$State" "served" "I") ∈ AW := AW_in 138 (by decide +kernel) rfl
theorem q112 : (Jvm.Cond.fieldLink "MembranePlant$Meters" (52 : Nat) "MembranePlant$State" "demanded" "I") ∈ AW := AW_in 139 (by decide +kernel) rfl
theorem q113 : (Jvm.Cond.fieldLink "MembranePlant$State" (101 : Nat) "MembranePlant$State" "demanded" "I") ∈ AW := AW_in 140 (by decide +kernel) rfl
theorem q114 : (Jvm.Cond.fieldLink "MembranePlant$State" (108 : Nat) "MembranePlant$State" "lacking" "I") ∈ AW := AW_in 141 (by decide +kernel) rfl
theorem q115 : (Jvm.Cond.fieldLink "MembranePlant$Planner" (87 : Nat) "MembranePlant$State" "lacking" "I") ∈ AW := AW_in 142 (by decide +kernel) rfl
theorem q143 : (Jvm.Cond.classLink "MembranePlant" (23 : Nat) "MembranePlant$Orders") ∈ AW := AW_in 170 (by decide +kernel) rfl
theorem q144 : (Jvm.Cond.instantiable "MembranePlant$Orders" (3 : Nat)) ∈ AW := AW_in 171 (by decide +kernel) rfl
theorem q146 : (Jvm.Cond.instanceMethod ({ cls := "MembranePlant$Orders", name := "<init>", desc := "()V" } : Jvm.MethodName)) ∈ AW := AW_in 173 (by decide +kernel) rfl
theorem q147 : (Jvm.Cond.code ({ cls := "MembranePlant$Orders", name := "<init>", desc := "()V" } : Jvm.MethodName) prog_3_method_1_code (1 : Nat) (Option.none : Option Jvm.ClassFile.FieldType)) ∈ AW := AW_in 174 (by decide +kernel) rfl
theorem q148 : (Jvm.Cond.methodLink "MembranePlant$Orders" (3 : Nat) ({ cls := "java/lang/Object", name := "<init>", desc := "()V" } : Jvm.MethodName)) ∈ AW := AW_in 175 (by decide +kernel) rfl
theorem q149 : (Jvm.Cond.fieldLink "MembranePlant$Orders" (9 : Nat) "MembranePlant$Orders" "halfHours" "[I") ∈ AW := AW_in 176 (by decide +kernel) rfl
theorem q150 : (Jvm.Cond.fieldLink "MembranePlant$Orders" (15 : Nat) "MembranePlant$Orders" "tells" "[I") ∈ AW := AW_in 177 (by decide +kernel) rfl
theorem q151 : (Jvm.Cond.fieldLink "MembranePlant$Orders" (22 : Nat) "MembranePlant$Orders" "count" "I") ∈ AW := AW_in 178 (by decide +kernel) rfl
theorem q152 : (Jvm.Cond.fieldLink "MembranePlant" (177 : Nat) "MembranePlant$Orders" "count" "I") ∈ AW := AW_in 179 (by decide +kernel) rfl
theorem q160 : (Jvm.Cond.classLink "MembranePlant" (30 : Nat) "MembranePlant$Planner") ∈ AW := AW_in 187 (by decide +kernel) rfl
theorem q161 : (Jvm.Cond.instantiable "MembranePlant$Planner" (8 : Nat)) ∈ AW := AW_in 188 (by decide +kernel) rfl
theorem q162 : (Jvm.Cond.methodLink "MembranePlant" (32 : Nat) ({ cls := "MembranePlant$Planner", name := "<init>", desc := "(LMembranePlant$Settings;LMembranePlant$Orders;)V" } : Jvm.MethodName)) ∈ AW := AW_in 189 (by decide +kernel) rfl
theorem q163 : (Jvm.Cond.instanceMethod ({ cls := "MembranePlant$Planner", name := "<init>", desc := "(LMembranePlant$Settings;LMembranePlant$Orders;)V" } : Jvm.MethodName)) ∈ AW := AW_in 190 (by decide +kernel) rfl
theorem q164 : (Jvm.Cond.code ({ cls := "MembranePlant$Planner", name := "<init>", desc := "(LMembranePlant$Settings;LMembranePlant$Orders;)V" } : Jvm.MethodName) prog_4_method_1_code (4 : Nat) (Option.none : Option Jvm.ClassFile.FieldType)) ∈ AW := AW_in 191 (by decide +kernel) rfl
theorem q165 : (Jvm.Cond.methodLink "MembranePlant$Planner" (3 : Nat) ({ cls := "java/lang/Object", name := "<init>", desc := "()V" } : Jvm.MethodName)) ∈ AW := AW_in 192 (by decide +kernel) rfl
theorem q166 : (Jvm.Cond.classLink "MembranePlant$Planner" (9 : Nat) "MembranePlant$State") ∈ AW := AW_in 193 (by decide +kernel) rfl
theorem q169 : (Jvm.Cond.fieldLink "MembranePlant$Planner" (24 : Nat) "MembranePlant$Planner" "settings" "LMembranePlant$Settings;") ∈ AW := AW_in 196 (by decide +kernel) rfl
theorem q170 : (Jvm.Cond.fieldLink "MembranePlant$Planner" (28 : Nat) "MembranePlant$Planner" "orders" "LMembranePlant$Orders;") ∈ AW := AW_in 197 (by decide +kernel) rfl
theorem q171 : (Jvm.Cond.fieldLink "MembranePlant$Planner" (11 : Nat) "MembranePlant$Planner" "rows" "[LMembranePlant$State;") ∈ AW := AW_in 198 (by decide +kernel) rfl
theorem q172 : (Jvm.Cond.fieldLink "MembranePlant$Planner" (17 : Nat) "MembranePlant$Planner" "told" "[I") ∈ AW := AW_in 199 (by decide +kernel) rfl
theorem q173 : (Jvm.Cond.fieldLink "MembranePlant$Planner" (21 : Nat) "MembranePlant$Planner" "slots" "[I") ∈ AW := AW_in 200 (by decide +kernel) rfl
theorem q174 : (Jvm.Cond.fieldLink "MembranePlant$Planner" (43 : Nat) "MembranePlant$Planner" "length" "I") ∈ AW := AW_in 201 (by decide +kernel) rfl
theorem q175 : (Jvm.Cond.fieldLink "MembranePlant$Planner" (59 : Nat) "MembranePlant$Planner" "best" "I") ∈ AW := AW_in 202 (by decide +kernel) rfl
theorem q176 : (Jvm.Cond.fieldLink "MembranePlant" (166 : Nat) "MembranePlant$Planner" "best" "I") ∈ AW := AW_in 203 (by decide +kernel) rfl
theorem q177 : (Jvm.Cond.fieldLink "MembranePlant$Planner" (63 : Nat) "MembranePlant$Planner" "leastCost" "I") ∈ AW := AW_in 204 (by decide +kernel) rfl
theorem q178 : (Jvm.Cond.fieldLink "MembranePlant" (162 : Nat) "MembranePlant$Planner" "leastCost" "I") ∈ AW := AW_in 205 (by decide +kernel) rfl
theorem q196 : (Jvm.Cond.classLink "MembranePlant" (39 : Nat) "MembranePlant$Meters") ∈ AW := AW_in 223 (by decide +kernel) rfl
theorem q197 : (Jvm.Cond.instantiable "MembranePlant$Meters" (9 : Nat)) ∈ AW := AW_in 224 (by decide +kernel) rfl
theorem q199 : (Jvm.Cond.instanceMethod ({ cls := "MembranePlant$Meters", name := "<init>", desc := "()V" } : Jvm.MethodName)) ∈ AW := AW_in 226 (by decide +kernel) rfl
theorem q200 : (Jvm.Cond.code ({ cls := "MembranePlant$Meters", name := "<init>", desc := "()V" } : Jvm.MethodName) prog_2_method_1_code (1 : Nat) (Option.none : Option Jvm.ClassFile.FieldType)) ∈ AW := AW_in 227 (by decide +kernel) rfl
theorem q201 : (Jvm.Cond.methodLink "MembranePlant$Meters" (3 : Nat) ({ cls := "java/lang/Object", name := "<init>", desc := "()V" } : Jvm.MethodName)) ∈ AW := AW_in 228 (by decide +kernel) rfl
theorem q202 : (Jvm.Cond.fieldLink "MembranePlant$Meters" (9 : Nat) "MembranePlant$Meters" "shorts" "[I") ∈ AW := AW_in 229 (by decide +kernel) rfl
theorem q203 : (Jvm.Cond.fieldLink "MembranePlant" (145 : Nat) "MembranePlant$Meters" "shorts" "[I") ∈ AW := AW_in 230 (by decide +kernel) rfl
theorem q204 : (Jvm.Cond.fieldLink "MembranePlant$Meters" (15 : Nat) "MembranePlant$Meters" "feed" "J") ∈ AW := AW_in 231 (by decide +kernel) rfl
theorem q205 : (Jvm.Cond.fieldLink "MembranePlant" (212 : Nat) "MembranePlant$Meters" "feed" "J") ∈ AW := AW_in 232 (by decide +kernel) rfl
theorem q206 : (Jvm.Cond.fieldLink "MembranePlant$Meters" (24 : Nat) "MembranePlant$Meters" "product" "J") ∈ AW := AW_in 233 (by decide +kernel) rfl
theorem q207 : (Jvm.Cond.fieldLink "MembranePlant" (215 : Nat) "MembranePlant$Meters" "product" "J") ∈ AW := AW_in 234 (by decide +kernel) rfl
theorem q208 : (Jvm.Cond.fieldLink "MembranePlant$Meters" (29 : Nat) "MembranePlant$Meters" "brine" "J") ∈ AW := AW_in 235 (by decide +kernel) rfl
theorem q209 : (Jvm.Cond.fieldLink "MembranePlant" (217 : Nat) "MembranePlant$Meters" "brine" "J") ∈ AW := AW_in 236 (by decide +kernel) rfl
theorem q210 : (Jvm.Cond.fieldLink "MembranePlant$Meters" (34 : Nat) "MembranePlant$Meters" "spilled" "J") ∈ AW := AW_in 237 (by decide +kernel) rfl
theorem q211 : (Jvm.Cond.fieldLink "MembranePlant" (220 : Nat) "MembranePlant$Meters" "spilled" "J") ∈ AW := AW_in 238 (by decide +kernel) rfl
theorem q212 : (Jvm.Cond.fieldLink "MembranePlant$Meters" (39 : Nat) "MembranePlant$Meters" "cost" "J") ∈ AW := AW_in 239 (by decide +kernel) rfl
theorem q213 : (Jvm.Cond.fieldLink "MembranePlant" (226 : Nat) "MembranePlant$Meters" "cost" "J") ∈ AW := AW_in 240 (by decide +kernel) rfl
theorem q214 : (Jvm.Cond.fieldLink "MembranePlant$Meters" (44 : Nat) "MembranePlant$Meters" "served" "J") ∈ AW := AW_in 241 (by decide +kernel) rfl
theorem q215 : (Jvm.Cond.fieldLink "MembranePlant" (223 : Nat) "MembranePlant$Meters" "served" "J") ∈ AW := AW_in 242 (by decide +kernel) rfl
theorem q216 : (Jvm.Cond.fieldLink "MembranePlant$Meters" (49 : Nat) "MembranePlant$Meters" "demanded" "J") ∈ AW := AW_in 243 (by decide +kernel) rfl
theorem q217 : (Jvm.Cond.fieldLink "MembranePlant" (233 : Nat) "MembranePlant$Meters" "demanded" "J") ∈ AW := AW_in 244 (by decide +kernel) rfl
theorem q218 : (Jvm.Cond.fieldLink "MembranePlant" (98 : Nat) "MembranePlant$Meters" "cleaned" "J") ∈ AW := AW_in 245 (by decide +kernel) rfl
theorem q238 : (Jvm.Cond.fieldLink "MembranePlant" (10 : Nat) "MembranePlant" "settings" "LMembranePlant$Settings;") ∈ AW := AW_in 265 (by decide +kernel) rfl
theorem q239 : (Jvm.Cond.fieldLink "MembranePlant" (19 : Nat) "MembranePlant" "state" "LMembranePlant$State;") ∈ AW := AW_in 266 (by decide +kernel) rfl
theorem q240 : (Jvm.Cond.fieldLink "MembranePlant" (26 : Nat) "MembranePlant" "orders" "LMembranePlant$Orders;") ∈ AW := AW_in 267 (by decide +kernel) rfl
theorem q241 : (Jvm.Cond.fieldLink "MembranePlant" (35 : Nat) "MembranePlant" "planner" "LMembranePlant$Planner;") ∈ AW := AW_in 268 (by decide +kernel) rfl
theorem q242 : (Jvm.Cond.fieldLink "MembranePlant" (42 : Nat) "MembranePlant" "meters" "LMembranePlant$Meters;") ∈ AW := AW_in 269 (by decide +kernel) rfl
theorem q243 : (Jvm.Cond.fieldLink "MembranePlant" (46 : Nat) "MembranePlant" "horizon" "I") ∈ AW := AW_in 270 (by decide +kernel) rfl
theorem q244 : (Jvm.Cond.fieldLink "MembranePlant" (50 : Nat) "MembranePlant" "present" "I") ∈ AW := AW_in 271 (by decide +kernel) rfl
theorem q260 : (Jvm.Cond.methodLink "MembranePlantLaw" (150 : Nat) ({ cls := "MembranePlant", name := "readyTrains", desc := "()I" } : Jvm.MethodName)) ∈ AW := AW_in 287 (by decide +kernel) rfl
theorem q261 : (Jvm.Cond.instanceMethod ({ cls := "MembranePlant", name := "readyTrains", desc := "()I" } : Jvm.MethodName)) ∈ AW := AW_in 288 (by decide +kernel) rfl
theorem q262 : (Jvm.Cond.selects "MembranePlant" ({ cls := "MembranePlant", name := "readyTrains", desc := "()I" } : Jvm.MethodName) ({ cls := "MembranePlant", name := "readyTrains", desc := "()I" } : Jvm.MethodName)) ∈ AW := AW_in 289 (by decide +kernel) rfl
theorem q263 : (Jvm.Cond.code ({ cls := "MembranePlant", name := "readyTrains", desc := "()I" } : Jvm.MethodName) prog_1_method_12_code (3 : Nat) (Option.some Jvm.ClassFile.FieldType.int)) ∈ AW := AW_in 290 (by decide +kernel) rfl
theorem q264 : (Jvm.Cond.methodLink "MembranePlantLaw" (174 : Nat) ({ cls := "MembranePlant", name := "pass", desc := "(Z)I" } : Jvm.MethodName)) ∈ AW := AW_in 291 (by decide +kernel) rfl
theorem q265 : (Jvm.Cond.instanceMethod ({ cls := "MembranePlant", name := "pass", desc := "(Z)I" } : Jvm.MethodName)) ∈ AW := AW_in 292 (by decide +kernel) rfl
theorem q266 : (Jvm.Cond.selects "MembranePlant" ({ cls := "MembranePlant", name := "pass", desc := "(Z)I" } : Jvm.MethodName) ({ cls := "MembranePlant", name := "pass", desc := "(Z)I" } : Jvm.MethodName)) ∈ AW := AW_in 293 (by decide +kernel) rfl
theorem q267 : (Jvm.Cond.code ({ cls := "MembranePlant", name := "pass", desc := "(Z)I" } : Jvm.MethodName) prog_1_method_19_code (2 : Nat) (Option.some Jvm.ClassFile.FieldType.int)) ∈ AW := AW_in 294 (by decide +kernel) rfl
theorem q268 : (Jvm.Cond.methodLink "MembranePlant" (148 : Nat) ({ cls := "MembranePlant", name := "passPresent", desc := "(Z)V" } : Jvm.MethodName)) ∈ AW := AW_in 295 (by decide +kernel) rfl
theorem q270 : (Jvm.Cond.instanceMethod ({ cls := "MembranePlant", name := "passPresent", desc := "(Z)V" } : Jvm.MethodName)) ∈ AW := AW_in 297 (by decide +kernel) rfl
theorem q271 : (Jvm.Cond.code ({ cls := "MembranePlant", name := "passPresent", desc := "(Z)V" } : Jvm.MethodName) prog_1_method_46_code (2 : Nat) (Option.none : Option Jvm.ClassFile.FieldType)) ∈ AW := AW_in 298 (by decide +kernel) rfl
theorem q272 : (Jvm.Cond.methodLink "MembranePlant" (256 : Nat) ({ cls := "MembranePlant", name := "slotOf", desc := "(I)I" } : Jvm.MethodName)) ∈ AW := AW_in 299 (by decide +kernel) rfl
theorem q273 : (Jvm.Cond.static ({ cls := "MembranePlant", name := "slotOf", desc := "(I)I" } : Jvm.MethodName)) ∈ AW := AW_in 300 (by decide +kernel) rfl
theorem q274 : (Jvm.Cond.code ({ cls := "MembranePlant", name := "slotOf", desc := "(I)I" } : Jvm.MethodName) prog_1_method_45_code (1 : Nat) (Option.some Jvm.ClassFile.FieldType.int)) ∈ AW := AW_in 301 (by decide +kernel) rfl
theorem q275 : (Jvm.Cond.methodLink "MembranePlant" (253 : Nat) ({ cls := "java/lang/Math", name := "floorMod", desc := "(II)I" } : Jvm.MethodName)) ∈ AW := AW_in 302 (by decide +kernel) rfl
theorem q276 : (Jvm.Cond.static ({ cls := "java/lang/Math", name := "floorMod", desc := "(II)I" } : Jvm.MethodName)) ∈ AW := AW_in 303 (by decide +kernel) rfl
theorem q277 : (Jvm.Cond.code ({ cls := "java/lang/Math", name := "floorMod", desc := "(II)I" } : Jvm.MethodName) prog_16_method_50_code (3 : Nat) (Option.some Jvm.ClassFile.FieldType.int)) ∈ AW := AW_in 304 (by decide +kernel) rfl
theorem q278 : (Jvm.Cond.methodLink "MembranePlant" (259 : Nat) ({ cls := "MembranePlant$State", name := "letPass", desc := "(LMembranePlant$Settings;IZ)V" } : Jvm.MethodName)) ∈ AW := AW_in 305 (by decide +kernel) rfl
theorem q279 : (Jvm.Cond.instanceMethod ({ cls := "MembranePlant$State", name := "letPass", desc := "(LMembranePlant$Settings;IZ)V" } : Jvm.MethodName)) ∈ AW := AW_in 306 (by decide +kernel) rfl
theorem q280 : (Jvm.Cond.selects "MembranePlant$State" ({ cls := "MembranePlant$State", name := "letPass", desc := "(LMembranePlant$Settings;IZ)V" } : Jvm.MethodName) ({ cls := "MembranePlant$State", name := "letPass", desc := "(LMembranePlant$Settings;IZ)V" } : Jvm.MethodName)) ∈ AW := AW_in 307 (by decide +kernel) rfl
theorem q281 : (Jvm.Cond.code ({ cls := "MembranePlant$State", name := "letPass", desc := "(LMembranePlant$Settings;IZ)V" } : Jvm.MethodName) prog_6_method_3_code (6 : Nat) (Option.none : Option Jvm.ClassFile.FieldType)) ∈ AW := AW_in 308 (by decide +kernel) rfl
theorem q282 : (Jvm.Cond.methodLink "MembranePlant$State" (48 : Nat) ({ cls := "MembranePlant$State", name := "goOnCleaning", desc := "(I)V" } : Jvm.MethodName)) ∈ AW := AW_in 309 (by decide +kernel) rfl
theorem q284 : (Jvm.Cond.instanceMethod ({ cls := "MembranePlant$State", name := "goOnCleaning", desc := "(I)V" } : Jvm.MethodName)) ∈ AW := AW_in 311 (by decide +kernel) rfl
theorem q285 : (Jvm.Cond.code ({ cls := "MembranePlant$State", name := "goOnCleaning", desc := "(I)V" } : Jvm.MethodName) prog_6_method_4_code (2 : Nat) (Option.none : Option Jvm.ClassFile.FieldType)) ∈ AW := AW_in 312 (by decide +kernel) rfl
theorem q286 : (Jvm.Cond.methodLink "MembranePlant$State" (70 : Nat) ({ cls := "java/lang/Math", name := "min", desc := "(II)I" } : Jvm.MethodName)) ∈ AW := AW_in 313 (by decide +kernel) rfl
theorem q287 : (Jvm.Cond.static ({ cls := "java/lang/Math", name := "min", desc := "(II)I" } : Jvm.MethodName)) ∈ AW := AW_in 314 (by decide +kernel) rfl
theorem q288 : (Jvm.Cond.code ({ cls := "java/lang/Math", name := "min", desc := "(II)I" } : Jvm.MethodName) prog_16_method_69_code (2 : Nat) (Option.some Jvm.ClassFile.FieldType.int)) ∈ AW := AW_in 315 (by decide +kernel) rfl
theorem q289 : (Jvm.Cond.methodLink "MembranePlant$State" (52 : Nat) ({ cls := "MembranePlant$State", name := "runTrain", desc := "(LMembranePlant$Settings;I)I" } : Jvm.MethodName)) ∈ AW := AW_in 316 (by decide +kernel) rfl
theorem q291 : (Jvm.Cond.instanceMethod ({ cls := "MembranePlant$State", name := "runTrain", desc := "(LMembranePlant$Settings;I)I" } : Jvm.MethodName)) ∈ AW := AW_in 318 (by decide +kernel) rfl
theorem q292 : (Jvm.Cond.code ({ cls := "MembranePlant$State", name := "runTrain", desc := "(LMembranePlant$Settings;I)I" } : Jvm.MethodName) prog_6_method_5_code (5 : Nat) (Option.some Jvm.ClassFile.FieldType.int)) ∈ AW := AW_in 319 (by decide +kernel) rfl
theorem q293 : (Jvm.Cond.methodLink "MembranePlant$State" (76 : Nat) ({ cls := "MembranePlant$Settings", name := "productAt", desc := "(II)I" } : Jvm.MethodName)) ∈ AW := AW_in 320 (by decide +kernel) rfl
theorem q294 : (Jvm.Cond.instanceMethod ({ cls := "MembranePlant$Settings", name := "productAt", desc := "(II)I" } : Jvm.MethodName)) ∈ AW := AW_in 321 (by decide +kernel) rfl
theorem q295 : (Jvm.Cond.selects "MembranePlant$Settings" ({ cls := "MembranePlant$Settings", name := "productAt", desc := "(II)I" } : Jvm.MethodName) ({ cls := "MembranePlant$Settings", name := "productAt", desc := "(II)I" } : Jvm.MethodName)) ∈ AW := AW_in 322 (by decide +kernel) rfl
theorem q296 : (Jvm.Cond.code ({ cls := "MembranePlant$Settings", name := "productAt", desc := "(II)I" } : Jvm.MethodName) prog_5_method_2_code (3 : Nat) (Option.some Jvm.ClassFile.FieldType.int)) ∈ AW := AW_in 323 (by decide +kernel) rfl
theorem q297 : (Jvm.Cond.methodLink "MembranePlant$State" (79 : Nat) ({ cls := "MembranePlant$Settings", name := "feedFor", desc := "(I)I" } : Jvm.MethodName)) ∈ AW := AW_in 324 (by decide +kernel) rfl
theorem q298 : (Jvm.Cond.instanceMethod ({ cls := "MembranePlant$Settings", name := "feedFor", desc := "(I)I" } : Jvm.MethodName)) ∈ AW := AW_in 325 (by decide +kernel) rfl
theorem q299 : (Jvm.Cond.selects "MembranePlant$Settings" ({ cls := "MembranePlant$Settings", name := "feedFor", desc := "(I)I" } : Jvm.MethodName) ({ cls := "MembranePlant$Settings", name := "feedFor", desc := "(I)I" } : Jvm.MethodName)) ∈ AW := AW_in 326 (by decide +kernel) rfl
theorem q300 : (Jvm.Cond.code ({ cls := "MembranePlant$Settings", name := "feedFor", desc := "(I)I" } : Jvm.MethodName) prog_5_method_3_code (2 : Nat) (Option.some Jvm.ClassFile.FieldType.int)) ∈ AW := AW_in 327 (by decide +kernel) rfl
theorem q301 : (Jvm.Cond.methodLink "MembranePlant$State" (83 : Nat) ({ cls := "MembranePlant$Settings", name := "foulingStep", desc := "(I)I" } : Jvm.MethodName)) ∈ AW := AW_in 328 (by decide +kernel) rfl
theorem q302 : (Jvm.Cond.instanceMethod ({ cls := "MembranePlant$Settings", name := "foulingStep", desc := "(I)I" } : Jvm.MethodName)) ∈ AW := AW_in 329 (by decide +kernel) rfl
theorem q303 : (Jvm.Cond.selects "MembranePlant$Settings" ({ cls := "MembranePlant$Settings", name := "foulingStep", desc := "(I)I" } : Jvm.MethodName) ({ cls := "MembranePlant$Settings", name := "foulingStep", desc := "(I)I" } : Jvm.MethodName)) ∈ AW := AW_in 330 (by decide +kernel) rfl
theorem q304 : (Jvm.Cond.code ({ cls := "MembranePlant$Settings", name := "foulingStep", desc := "(I)I" } : Jvm.MethodName) prog_5_method_5_code (2 : Nat) (Option.some Jvm.ClassFile.FieldType.int)) ∈ AW := AW_in 331 (by decide +kernel) rfl
theorem q305 : (Jvm.Cond.methodLink "MembranePlant$State" (86 : Nat) ({ cls := "MembranePlant$Settings", name := "energyFor", desc := "(II)I" } : Jvm.MethodName)) ∈ AW := AW_in 332 (by decide +kernel) rfl
theorem q306 : (Jvm.Cond.instanceMethod ({ cls := "MembranePlant$Settings", name := "energyFor", desc := "(II)I" } : Jvm.MethodName)) ∈ AW := AW_in 333 (by decide +kernel) rfl
theorem q307 : (Jvm.Cond.selects "MembranePlant$Settings" ({ cls := "MembranePlant$Settings", name := "energyFor", desc := "(II)I" } : Jvm.MethodName) ({ cls := "MembranePlant$Settings", name := "energyFor", desc := "(II)I" } : Jvm.MethodName)) ∈ AW := AW_in 334 (by decide +kernel) rfl
theorem q308 : (Jvm.Cond.code ({ cls := "MembranePlant$Settings", name := "energyFor", desc := "(II)I" } : Jvm.MethodName) prog_5_method_4_code (3 : Nat) (Option.some Jvm.ClassFile.FieldType.int)) ∈ AW := AW_in 335 (by decide +kernel) rfl
theorem q309 : (Jvm.Cond.methodLink "MembranePlant$State" (62 : Nat) ({ cls := "MembranePlant$State", name := "pour", desc := "(LMembranePlant$Settings;)V" } : Jvm.MethodName)) ∈ AW := AW_in 336 (by decide +kernel) rfl
theorem q311 : (Jvm.Cond.instanceMethod ({ cls := "MembranePlant$State", name := "pour", desc := "(LMembranePlant$Settings;)V" } : Jvm.MethodName)) ∈ AW := AW_in 338 (by decide +kernel) rfl
theorem q312 : (Jvm.Cond.code ({ cls := "MembranePlant$State", name := "pour", desc := "(LMembranePlant$Settings;)V" } : Jvm.MethodName) prog_6_method_6_code (5 : Nat) (Option.none : Option Jvm.ClassFile.FieldType)) ∈ AW := AW_in 339 (by decide +kernel) rfl
theorem q313 : (Jvm.Cond.methodLink "MembranePlant$State" (66 : Nat) ({ cls := "MembranePlant$State", name := "serve", desc := "(LMembranePlant$Settings;I)V" } : Jvm.MethodName)) ∈ AW := AW_in 340 (by decide +kernel) rfl
theorem q315 : (Jvm.Cond.instanceMethod ({ cls := "MembranePlant$State", name := "serve", desc := "(LMembranePlant$Settings;I)V" } : Jvm.MethodName)) ∈ AW := AW_in 342 (by decide +kernel) rfl
theorem q316 : (Jvm.Cond.code ({ cls := "MembranePlant$State", name := "serve", desc := "(LMembranePlant$Settings;I)V" } : Jvm.MethodName) prog_6_method_7_code (6 : Nat) (Option.none : Option Jvm.ClassFile.FieldType)) ∈ AW := AW_in 343 (by decide +kernel) rfl
theorem q317 : (Jvm.Cond.methodLink "MembranePlant" (263 : Nat) ({ cls := "MembranePlant$Meters", name := "add", desc := "(LMembranePlant$State;)V" } : Jvm.MethodName)) ∈ AW := AW_in 344 (by decide +kernel) rfl
theorem q318 : (Jvm.Cond.instanceMethod ({ cls := "MembranePlant$Meters", name := "add", desc := "(LMembranePlant$State;)V" } : Jvm.MethodName)) ∈ AW := AW_in 345 (by decide +kernel) rfl
theorem q319 : (Jvm.Cond.selects "MembranePlant$Meters" ({ cls := "MembranePlant$Meters", name := "add", desc := "(LMembranePlant$State;)V" } : Jvm.MethodName) ({ cls := "MembranePlant$Meters", name := "add", desc := "(LMembranePlant$State;)V" } : Jvm.MethodName)) ∈ AW := AW_in 346 (by decide +kernel) rfl
theorem q320 : (Jvm.Cond.code ({ cls := "MembranePlant$Meters", name := "add", desc := "(LMembranePlant$State;)V" } : Jvm.MethodName) prog_2_method_2_code (3 : Nat) (Option.none : Option Jvm.ClassFile.FieldType)) ∈ AW := AW_in 347 (by decide +kernel) rfl
theorem q321 : (Jvm.Cond.methodLink "MembranePlant" (190 : Nat) ({ cls := "MembranePlant$Orders", name := "forget", desc := "(I)V" } : Jvm.MethodName)) ∈ AW := AW_in 348 (by decide +kernel) rfl
theorem q322 : (Jvm.Cond.instanceMethod ({ cls := "MembranePlant$Orders", name := "forget", desc := "(I)V" } : Jvm.MethodName)) ∈ AW := AW_in 349 (by decide +kernel) rfl
theorem q323 : (Jvm.Cond.selects "MembranePlant$Orders" ({ cls := "MembranePlant$Orders", name := "forget", desc := "(I)V" } : Jvm.MethodName) ({ cls := "MembranePlant$Orders", name := "forget", desc := "(I)V" } : Jvm.MethodName)) ∈ AW := AW_in 350 (by decide +kernel) rfl
theorem q324 : (Jvm.Cond.code ({ cls := "MembranePlant$Orders", name := "forget", desc := "(I)V" } : Jvm.MethodName) prog_3_method_4_code (3 : Nat) (Option.none : Option Jvm.ClassFile.FieldType)) ∈ AW := AW_in 351 (by decide +kernel) rfl
theorem q325 : (Jvm.Cond.methodLink "MembranePlant$Orders" (18 : Nat) ({ cls := "MembranePlant$Orders", name := "find", desc := "(I)I" } : Jvm.MethodName)) ∈ AW := AW_in 352 (by decide +kernel) rfl
theorem q327 : (Jvm.Cond.instanceMethod ({ cls := "MembranePlant$Orders", name := "find", desc := "(I)I" } : Jvm.MethodName)) ∈ AW := AW_in 354 (by decide +kernel) rfl
theorem q328 : (Jvm.Cond.code ({ cls := "MembranePlant$Orders", name := "find", desc := "(I)I" } : Jvm.MethodName) prog_3_method_5_code (3 : Nat) (Option.some Jvm.ClassFile.FieldType.int)) ∈ AW := AW_in 355 (by decide +kernel) rfl
theorem q329 : (Jvm.Cond.methodLink "MembranePlantLaw" (192 : Nat) ({ cls := "MembranePlant", name := "halfHour", desc := "()I" } : Jvm.MethodName)) ∈ AW := AW_in 356 (by decide +kernel) rfl
theorem q330 : (Jvm.Cond.instanceMethod ({ cls := "MembranePlant", name := "halfHour", desc := "()I" } : Jvm.MethodName)) ∈ AW := AW_in 357 (by decide +kernel) rfl
theorem q331 : (Jvm.Cond.selects "MembranePlant" ({ cls := "MembranePlant", name := "halfHour", desc := "()I" } : Jvm.MethodName) ({ cls := "MembranePlant", name := "halfHour", desc := "()I" } : Jvm.MethodName)) ∈ AW := AW_in 358 (by decide +kernel) rfl
theorem q332 : (Jvm.Cond.code ({ cls := "MembranePlant", name := "halfHour", desc := "()I" } : Jvm.MethodName) prog_1_method_24_code (1 : Nat) (Option.some Jvm.ClassFile.FieldType.int)) ∈ AW := AW_in 359 (by decide +kernel) rfl
theorem q333 : (Jvm.Cond.methodLink "MembranePlantLaw" (208 : Nat) ({ cls := "MembranePlant", name := "feed", desc := "()J" } : Jvm.MethodName)) ∈ AW := AW_in 360 (by decide +kernel) rfl
theorem q334 : (Jvm.Cond.instanceMethod ({ cls := "MembranePlant", name := "feed", desc := "()J" } : Jvm.MethodName)) ∈ AW := AW_in 361 (by decide +kernel) rfl
theorem q335 : (Jvm.Cond.selects "MembranePlant" ({ cls := "MembranePlant", name := "feed", desc := "()J" } : Jvm.MethodName) ({ cls := "MembranePlant", name := "feed", desc := "()J" } : Jvm.MethodName)) ∈ AW := AW_in 362 (by decide +kernel) rfl
theorem q336 : (Jvm.Cond.code ({ cls := "MembranePlant", name := "feed", desc := "()J" } : Jvm.MethodName) prog_1_method_29_code (1 : Nat) (Option.some Jvm.ClassFile.FieldType.long)) ∈ AW := AW_in 363 (by decide +kernel) rfl
theorem q337 : (Jvm.Cond.methodLink "MembranePlantLaw" (213 : Nat) ({ cls := "MembranePlant", name := "product", desc := "()J" } : Jvm.MethodName)) ∈ AW := AW_in 364 (by decide +kernel) rfl
theorem q338 : (Jvm.Cond.instanceMethod ({ cls := "MembranePlant", name := "product", desc := "()J" } : Jvm.MethodName)) ∈ AW := AW_in 365 (by decide +kernel) rfl
theorem q339 : (Jvm.Cond.selects "MembranePlant" ({ cls := "MembranePlant", name := "product", desc := "()J" } : Jvm.MethodName) ({ cls := "MembranePlant", name := "product", desc := "()J" } : Jvm.MethodName)) ∈ AW := AW_in 366 (by decide +kernel) rfl
theorem q340 : (Jvm.Cond.code ({ cls := "MembranePlant", name := "product", desc := "()J" } : Jvm.MethodName) prog_1_method_30_code (1 : Nat) (Option.some Jvm.ClassFile.FieldType.long)) ∈ AW := AW_in 367 (by decide +kernel) rfl
theorem q341 : (Jvm.Cond.methodLink "MembranePlantLaw" (217 : Nat) ({ cls := "MembranePlant", name := "brine", desc := "()J" } : Jvm.MethodName)) ∈ AW := AW_in 368 (by decide +kernel) rfl
theorem q342 : (Jvm.Cond.instanceMethod ({ cls := "MembranePlant", name := "brine", desc := "()J" } : Jvm.MethodName)) ∈ AW := AW_in 369 (by decide +kernel) rfl
theorem q343 : (Jvm.Cond.selects "MembranePlant" ({ cls := "MembranePlant", name := "brine", desc := "()J" } : Jvm.MethodName) ({ cls := "MembranePlant", name := "brine", desc := "()J" } : Jvm.MethodName)) ∈ AW := AW_in 370 (by decide +kernel) rfl
theorem q344 : (Jvm.Cond.code ({ cls := "MembranePlant", name := "brine", desc := "()J" } : Jvm.MethodName) prog_1_method_31_code (1 : Nat) (Option.some Jvm.ClassFile.FieldType.long)) ∈ AW := AW_in 371 (by decide +kernel) rfl
theorem q345 : (Jvm.Cond.methodLink "MembranePlantLaw" (221 : Nat) ({ cls := "MembranePlant", name := "spilled", desc := "()J" } : Jvm.MethodName)) ∈ AW := AW_in 372 (by decide +kernel) rfl
theorem q346 : (Jvm.Cond.instanceMethod ({ cls := "MembranePlant", name := "spilled", desc := "()J" } : Jvm.MethodName)) ∈ AW := AW_in 373 (by decide +kernel) rfl
theorem q347 : (Jvm.Cond.selects "MembranePlant" ({ cls := "MembranePlant", name := "spilled", desc := "()J" } : Jvm.MethodName) ({ cls := "MembranePlant", name := "spilled", desc := "()J" } : Jvm.MethodName)) ∈ AW := AW_in 374 (by decide +kernel) rfl
theorem q348 : (Jvm.Cond.code ({ cls := "MembranePlant", name := "spilled", desc := "()J" } : Jvm.MethodName) prog_1_method_32_code (1 : Nat) (Option.some Jvm.ClassFile.FieldType.long)) ∈ AW := AW_in 375 (by decide +kernel) rfl
theorem q349 : (Jvm.Cond.methodLink "MembranePlantLaw" (225 : Nat) ({ cls := "MembranePlant", name := "spilledByBalance", desc := "()J" } : Jvm.MethodName)) ∈ AW := AW_in 376 (by decide +kernel) rfl
theorem q350 : (Jvm.Cond.instanceMethod ({ cls := "MembranePlant", name := "spilledByBalance", desc := "()J" } : Jvm.MethodName)) ∈ AW := AW_in 377 (by decide +kernel) rfl
theorem q351 : (Jvm.Cond.selects "MembranePlant" ({ cls := "MembranePlant", name := "spilledByBalance", desc := "()J" } : Jvm.MethodName) ({ cls := "MembranePlant", name := "spilledByBalance", desc := "()J" } : Jvm.MethodName)) ∈ AW := AW_in 378 (by decide +kernel) rfl
theorem q352 : (Jvm.Cond.code ({ cls := "MembranePlant", name := "spilledByBalance", desc := "()J" } : Jvm.MethodName) prog_1_method_33_code (4 : Nat) (Option.some Jvm.ClassFile.FieldType.long)) ∈ AW := AW_in 379 (by decide +kernel) rfl
theorem q353 : (Jvm.Cond.methodLink "MembranePlantLaw" (229 : Nat) ({ cls := "MembranePlant", name := "cost", desc := "()J" } : Jvm.MethodName)) ∈ AW := AW_in 380 (by decide +kernel) rfl
theorem q354 : (Jvm.Cond.instanceMethod ({ cls := "MembranePlant", name := "cost", desc := "()J" } : Jvm.MethodName)) ∈ AW := AW_in 381 (by decide +kernel) rfl
theorem q355 : (Jvm.Cond.selects "MembranePlant" ({ cls := "MembranePlant", name := "cost", desc := "()J" } : Jvm.MethodName) ({ cls := "MembranePlant", name := "cost", desc := "()J" } : Jvm.MethodName)) ∈ AW := AW_in 382 (by decide +kernel) rfl
theorem q356 : (Jvm.Cond.code ({ cls := "MembranePlant", name := "cost", desc := "()J" } : Jvm.MethodName) prog_1_method_34_code (1 : Nat) (Option.some Jvm.ClassFile.FieldType.long)) ∈ AW := AW_in 383 (by decide +kernel) rfl
theorem q357 : (Jvm.Cond.methodLink "MembranePlantLaw" (233 : Nat) ({ cls := "MembranePlant", name := "isBalanced", desc := "()Z" } : Jvm.MethodName)) ∈ AW := AW_in 384 (by decide +kernel) rfl
theorem q358 : (Jvm.Cond.instanceMethod ({ cls := "MembranePlant", name := "isBalanced", desc := "()Z" } : Jvm.MethodName)) ∈ AW := AW_in 385 (by decide +kernel) rfl
theorem q359 : (Jvm.Cond.selects "MembranePlant" ({ cls := "MembranePlant", name := "isBalanced", desc := "()Z" } : Jvm.MethodName) ({ cls := "MembranePlant", name := "isBalanced", desc := "()Z" } : Jvm.MethodName)) ∈ AW := AW_in 386 (by decide +kernel) rfl
theorem q360 : (Jvm.Cond.code ({ cls := "MembranePlant", name := "isBalanced", desc := "()Z" } : Jvm.MethodName) prog_1_method_35_code (1 : Nat) (Option.some Jvm.ClassFile.FieldType.boolean)) ∈ AW := AW_in 387 (by decide +kernel) rfl
theorem q361 : (Jvm.Cond.methodLink "MembranePlant" (229 : Nat) ({ cls := "MembranePlant", name := "spilledByBalance", desc := "()J" } : Jvm.MethodName)) ∈ AW := AW_in 388 (by decide +kernel) rfl
theorem q362 : (Jvm.Cond.methodLink "MembranePlantLaw" (112 : Nat) ({ cls := "MembranePlantLaw", name := "addTrain", desc := "(LMembranePlant;I[J)I" } : Jvm.MethodName)) ∈ AW := AW_in 389 (by decide +kernel) rfl
theorem q363 : (Jvm.Cond.static ({ cls := "MembranePlantLaw", name := "addTrain", desc := "(LMembranePlant;I[J)I" } : Jvm.MethodName)) ∈ AW := AW_in 390 (by decide +kernel) rfl
theorem q364 : (Jvm.Cond.codeWith ({ cls := "MembranePlantLaw", name := "addTrain", desc := "(LMembranePlant;I[J)I" } : Jvm.MethodName) method_3_code (4 : Nat) (Option.some Jvm.ClassFile.FieldType.int) [((0 : Nat), (9 : Nat), (12 : Nat), (13 : Nat)), ((0 : Nat), (9 : Nat), (15 : Nat), (15 : Nat))]) ∈ AW := AW_in 391 (by decide +kernel) rfl
theorem q365 : (Jvm.Cond.classLink "MembranePlantLaw" (13 : Nat) "java/lang/IllegalArgumentException") ∈ AW := AW_in 392 (by decide +kernel) rfl
theorem q366 : (Jvm.Cond.classLink "MembranePlantLaw" (15 : Nat) "java/lang/IllegalStateException") ∈ AW := AW_in 393 (by decide +kernel) rfl
theorem q367 : (Jvm.Cond.methodLink "MembranePlantLaw" (7 : Nat) ({ cls := "MembranePlant", name := "addTrain", desc := "(I)I" } : Jvm.MethodName)) ∈ AW := AW_in 394 (by decide +kernel) rfl
theorem q368 : (Jvm.Cond.instanceMethod ({ cls := "MembranePlant", name := "addTrain", desc := "(I)I" } : Jvm.MethodName)) ∈ AW := AW_in 395 (by decide +kernel) rfl
theorem q369 : (Jvm.Cond.selects "MembranePlant" ({ cls := "MembranePlant", name := "addTrain", desc := "(I)I" } : Jvm.MethodName) ({ cls := "MembranePlant", name := "addTrain", desc := "(I)I" } : Jvm.MethodName)) ∈ AW := AW_in 396 (by decide +kernel) rfl
theorem q370 : (Jvm.Cond.code ({ cls := "MembranePlant", name := "addTrain", desc := "(I)I" } : Jvm.MethodName) prog_1_method_2_code (3 : Nat) (Option.some Jvm.ClassFile.FieldType.int)) ∈ AW := AW_in 397 (by decide +kernel) rfl
theorem q371 : (Jvm.Cond.methodLink "MembranePlant" (53 : Nat) ({ cls := "MembranePlant", name := "checkRange", desc := "(III)V" } : Jvm.MethodName)) ∈ AW := AW_in 398 (by decide +kernel) rfl
theorem q372 : (Jvm.Cond.static ({ cls := "MembranePlant", name := "checkRange", desc := "(III)V" } : Jvm.MethodName)) ∈ AW := AW_in 399 (by decide +kernel) rfl
theorem q373 : (Jvm.Cond.code ({ cls := "MembranePlant", name := "checkRange", desc := "(III)V" } : Jvm.MethodName) prog_1_method_38_code (3 : Nat) (Option.none : Option Jvm.ClassFile.FieldType)) ∈ AW := AW_in 400 (by decide +kernel) rfl
theorem q374 : (Jvm.Cond.classLink "MembranePlant" (172 : Nat) "java/lang/IllegalArgumentException") ∈ AW := AW_in 401 (by decide +kernel) rfl
theorem q375 : (Jvm.Cond.instantiable "java/lang/IllegalArgumentException" (6 : Nat)) ∈ AW := AW_in 402 (by decide +kernel) rfl
theorem q383 : (Jvm.Cond.selects "java/lang/IllegalArgumentException" ({ cls := "java/lang/Throwable", name := "fillInStackTrace", desc := "(I)Ljava/lang/Throwable;" } : Jvm.MethodName) ({ cls := "java/lang/Throwable", name := "fillInStackTrace", desc := "(I)Ljava/lang/Throwable;" } : Jvm.MethodName)) ∈ AW := AW_in 410 (by decide +kernel) rfl
theorem q384 : (Jvm.Cond.selects "java/lang/IllegalArgumentException" ({ cls := "java/lang/Throwable", name := "fillInStackTrace", desc := "()Ljava/lang/Throwable;" } : Jvm.MethodName) ({ cls := "java/lang/Throwable", name := "fillInStackTrace", desc := "()Ljava/lang/Throwable;" } : Jvm.MethodName)) ∈ AW := AW_in 411 (by decide +kernel) rfl
theorem q395 : (Jvm.Cond.fieldLink "java/lang/Throwable" (198 : Nat) "java/lang/Throwable" "backtrace" "Ljava/lang/Object;") ∈ AW := AW_in 422 (by decide +kernel) rfl
theorem q397 : (Jvm.Cond.instanceMethod ({ cls := "java/lang/Throwable", name := "<init>", desc := "()V" } : Jvm.MethodName)) ∈ AW := AW_in 424 (by decide +kernel) rfl
theorem q398 : (Jvm.Cond.code ({ cls := "java/lang/Throwable", name := "<init>", desc := "()V" } : Jvm.MethodName) prog_20_method_1_code (1 : Nat) (Option.none : Option Jvm.ClassFile.FieldType)) ∈ AW := AW_in 425 (by decide +kernel) rfl
theorem q399 : (Jvm.Cond.methodLink "java/lang/Throwable" (1 : Nat) ({ cls := "java/lang/Object", name := "<init>", desc := "()V" } : Jvm.MethodName)) ∈ AW := AW_in 426 (by decide +kernel) rfl
theorem q400 : (Jvm.Cond.fieldLink "java/lang/Throwable" (13 : Nat) "java/lang/Throwable" "UNASSIGNED_STACK" "[Ljava/lang/StackTraceElement;") ∈ AW := AW_in 427 (by decide +kernel) rfl
end
section
theorem q402 : (Jvm.Cond.fieldLink "java/lang/Throwable" (20 : Nat) "java/lang/Throwable" "SUPPRESSED_SENTINEL" "Ljava/util/List;") ∈ AW := AW_in 429 (by decide +kernel) rfl
theorem q404 : (Jvm.Cond.methodLink "java/lang/Throwable" (27 : Nat) ({ cls := "java/lang/Throwable", name := "fillInStackTrace", desc := "()Ljava/lang/Throwable;" } : Jvm.MethodName)) ∈ AW := AW_in 431 (by decide +kernel) rfl
theorem q405 : (Jvm.Cond.instanceMethod ({ cls := "java/lang/Throwable", name := "fillInStackTrace", desc := "()Ljava/lang/Throwable;" } : Jvm.MethodName)) ∈ AW := AW_in 432 (by decide +kernel) rfl
theorem q407 : (Jvm.Cond.selects "java/lang/ArithmeticException" ({ cls := "java/lang/Throwable", name := "fillInStackTrace", desc := "()Ljava/lang/Throwable;" } : Jvm.MethodName) ({ cls := "java/lang/Throwable", name := "fillInStackTrace", desc := "()Ljava/lang/Throwable;" } : Jvm.MethodName)) ∈ AW := AW_in 434 (by decide +kernel) rfl
theorem q408 : (Jvm.Cond.selects "java/lang/ArrayIndexOutOfBoundsException" ({ cls := "java/lang/Throwable", name := "fillInStackTrace", desc := "()Ljava/lang/Throwable;" } : Jvm.MethodName) ({ cls := "java/lang/Throwable", name := "fillInStackTrace", desc := "()Ljava/lang/Throwable;" } : Jvm.MethodName)) ∈ AW := AW_in 435 (by decide +kernel) rfl
theorem q409 : (Jvm.Cond.selects "java/lang/IllegalStateException" ({ cls := "java/lang/Throwable", name := "fillInStackTrace", desc := "()Ljava/lang/Throwable;" } : Jvm.MethodName) ({ cls := "java/lang/Throwable", name := "fillInStackTrace", desc := "()Ljava/lang/Throwable;" } : Jvm.MethodName)) ∈ AW := AW_in 436 (by decide +kernel) rfl
theorem q410 : (Jvm.Cond.selects "java/lang/IndexOutOfBoundsException" ({ cls := "java/lang/Throwable", name := "fillInStackTrace", desc := "()Ljava/lang/Throwable;" } : Jvm.MethodName) ({ cls := "java/lang/Throwable", name := "fillInStackTrace", desc := "()Ljava/lang/Throwable;" } : Jvm.MethodName)) ∈ AW := AW_in 437 (by decide +kernel) rfl
theorem q411 : (Jvm.Cond.selects "java/lang/UnsupportedOperationException" ({ cls := "java/lang/Throwable", name := "fillInStackTrace", desc := "()Ljava/lang/Throwable;" } : Jvm.MethodName) ({ cls := "java/lang/Throwable", name := "fillInStackTrace", desc := "()Ljava/lang/Throwable;" } : Jvm.MethodName)) ∈ AW := AW_in 438 (by decide +kernel) rfl
theorem q412 : (Jvm.Cond.selects "java/util/NoSuchElementException" ({ cls := "java/lang/Throwable", name := "fillInStackTrace", desc := "()Ljava/lang/Throwable;" } : Jvm.MethodName) ({ cls := "java/lang/Throwable", name := "fillInStackTrace", desc := "()Ljava/lang/Throwable;" } : Jvm.MethodName)) ∈ AW := AW_in 439 (by decide +kernel) rfl
theorem q414 : (Jvm.Cond.methodLink "java/lang/Throwable" (202 : Nat) ({ cls := "java/lang/Throwable", name := "fillInStackTrace", desc := "(I)Ljava/lang/Throwable;" } : Jvm.MethodName)) ∈ AW := AW_in 441 (by decide +kernel) rfl
theorem q416 : (Jvm.Cond.instanceMethod ({ cls := "java/lang/Throwable", name := "fillInStackTrace", desc := "(I)Ljava/lang/Throwable;" } : Jvm.MethodName)) ∈ AW := AW_in 443 (by decide +kernel) rfl
theorem q417 : (Jvm.Cond.instantiable "java/lang/Throwable" (6 : Nat)) ∈ AW := AW_in 444 (by decide +kernel) rfl
theorem q418 : (Jvm.Cond.native ({ cls := "java/lang/Throwable", name := "fillInStackTrace", desc := "(I)Ljava/lang/Throwable;" } : Jvm.MethodName)) ∈ AW := AW_in 445 (by decide +kernel) rfl
theorem q420 : (Jvm.Cond.methodLink "MembranePlant" (176 : Nat) ({ cls := "java/lang/IllegalArgumentException", name := "<init>", desc := "(Ljava/lang/String;)V" } : Jvm.MethodName)) ∈ AW := AW_in 447 (by decide +kernel) rfl
theorem q421 : (Jvm.Cond.instanceMethod ({ cls := "java/lang/IllegalArgumentException", name := "<init>", desc := "(Ljava/lang/String;)V" } : Jvm.MethodName)) ∈ AW := AW_in 448 (by decide +kernel) rfl
theorem q422 : (Jvm.Cond.code ({ cls := "java/lang/IllegalArgumentException", name := "<init>", desc := "(Ljava/lang/String;)V" } : Jvm.MethodName) prog_13_method_2_code (2 : Nat) (Option.none : Option Jvm.ClassFile.FieldType)) ∈ AW := AW_in 449 (by decide +kernel) rfl
theorem q423 : (Jvm.Cond.methodLink "java/lang/IllegalArgumentException" (7 : Nat) ({ cls := "java/lang/RuntimeException", name := "<init>", desc := "(Ljava/lang/String;)V" } : Jvm.MethodName)) ∈ AW := AW_in 450 (by decide +kernel) rfl
theorem q424 : (Jvm.Cond.instanceMethod ({ cls := "java/lang/RuntimeException", name := "<init>", desc := "(Ljava/lang/String;)V" } : Jvm.MethodName)) ∈ AW := AW_in 451 (by decide +kernel) rfl
theorem q425 : (Jvm.Cond.code ({ cls := "java/lang/RuntimeException", name := "<init>", desc := "(Ljava/lang/String;)V" } : Jvm.MethodName) prog_17_method_2_code (2 : Nat) (Option.none : Option Jvm.ClassFile.FieldType)) ∈ AW := AW_in 452 (by decide +kernel) rfl
theorem q426 : (Jvm.Cond.methodLink "java/lang/RuntimeException" (7 : Nat) ({ cls := "java/lang/Exception", name := "<init>", desc := "(Ljava/lang/String;)V" } : Jvm.MethodName)) ∈ AW := AW_in 453 (by decide +kernel) rfl
theorem q427 : (Jvm.Cond.instanceMethod ({ cls := "java/lang/Exception", name := "<init>", desc := "(Ljava/lang/String;)V" } : Jvm.MethodName)) ∈ AW := AW_in 454 (by decide +kernel) rfl
theorem q428 : (Jvm.Cond.code ({ cls := "java/lang/Exception", name := "<init>", desc := "(Ljava/lang/String;)V" } : Jvm.MethodName) prog_12_method_2_code (2 : Nat) (Option.none : Option Jvm.ClassFile.FieldType)) ∈ AW := AW_in 455 (by decide +kernel) rfl
theorem q429 : (Jvm.Cond.methodLink "java/lang/Exception" (7 : Nat) ({ cls := "java/lang/Throwable", name := "<init>", desc := "(Ljava/lang/String;)V" } : Jvm.MethodName)) ∈ AW := AW_in 456 (by decide +kernel) rfl
theorem q430 : (Jvm.Cond.instanceMethod ({ cls := "java/lang/Throwable", name := "<init>", desc := "(Ljava/lang/String;)V" } : Jvm.MethodName)) ∈ AW := AW_in 457 (by decide +kernel) rfl
theorem q431 : (Jvm.Cond.code ({ cls := "java/lang/Throwable", name := "<init>", desc := "(Ljava/lang/String;)V" } : Jvm.MethodName) prog_20_method_2_code (2 : Nat) (Option.none : Option Jvm.ClassFile.FieldType)) ∈ AW := AW_in 458 (by decide +kernel) rfl
theorem q432 : (Jvm.Cond.fieldLink "java/lang/Throwable" (198 : Nat) "java/lang/Throwable" "backtrace" "Ljava/lang/Object;") ∈ AW := AW_in 459 (by decide +kernel) rfl
theorem q433 : (Jvm.Cond.fieldLink "java/lang/Throwable" (31 : Nat) "java/lang/Throwable" "detailMessage" "Ljava/lang/String;") ∈ AW := AW_in 460 (by decide +kernel) rfl
theorem q434 : (Jvm.Cond.fieldLink "java/lang/Throwable" (7 : Nat) "java/lang/Throwable" "cause" "Ljava/lang/Throwable;") ∈ AW := AW_in 461 (by decide +kernel) rfl
theorem q435 : (Jvm.Cond.fieldLink "java/lang/Throwable" (17 : Nat) "java/lang/Throwable" "stackTrace" "[Ljava/lang/StackTraceElement;") ∈ AW := AW_in 462 (by decide +kernel) rfl
theorem q436 : (Jvm.Cond.fieldLink "java/lang/Throwable" (24 : Nat) "java/lang/Throwable" "suppressedExceptions" "Ljava/util/List;") ∈ AW := AW_in 463 (by decide +kernel) rfl
theorem q445 : (Jvm.Cond.arrayClass Jvm.ClassFile.FieldType.byte) ∈ AW := AW_in 472 (by decide +kernel) rfl
theorem q446 : (Jvm.Cond.classLink "MembranePlant" (60 : Nat) "java/lang/IllegalStateException") ∈ AW := AW_in 473 (by decide +kernel) rfl
theorem q447 : (Jvm.Cond.instantiable "java/lang/IllegalStateException" (6 : Nat)) ∈ AW := AW_in 474 (by decide +kernel) rfl
theorem q449 : (Jvm.Cond.selects "java/lang/IllegalStateException" ({ cls := "java/lang/Throwable", name := "fillInStackTrace", desc := "(I)Ljava/lang/Throwable;" } : Jvm.MethodName) ({ cls := "java/lang/Throwable", name := "fillInStackTrace", desc := "(I)Ljava/lang/Throwable;" } : Jvm.MethodName)) ∈ AW := AW_in 476 (by decide +kernel) rfl
theorem q456 : (Jvm.Cond.methodLink "MembranePlant" (64 : Nat) ({ cls := "java/lang/IllegalStateException", name := "<init>", desc := "(Ljava/lang/String;)V" } : Jvm.MethodName)) ∈ AW := AW_in 483 (by decide +kernel) rfl
theorem q457 : (Jvm.Cond.instanceMethod ({ cls := "java/lang/IllegalStateException", name := "<init>", desc := "(Ljava/lang/String;)V" } : Jvm.MethodName)) ∈ AW := AW_in 484 (by decide +kernel) rfl
theorem q458 : (Jvm.Cond.code ({ cls := "java/lang/IllegalStateException", name := "<init>", desc := "(Ljava/lang/String;)V" } : Jvm.MethodName) prog_14_method_2_code (2 : Nat) (Option.none : Option Jvm.ClassFile.FieldType)) ∈ AW := AW_in 485 (by decide +kernel) rfl
theorem q459 : (Jvm.Cond.methodLink "java/lang/IllegalStateException" (7 : Nat) ({ cls := "java/lang/RuntimeException", name := "<init>", desc := "(Ljava/lang/String;)V" } : Jvm.MethodName)) ∈ AW := AW_in 486 (by decide +kernel) rfl
theorem q462 : (Jvm.Cond.methodLink "MembranePlantLaw" (122 : Nat) ({ cls := "MembranePlantLaw", name := "setPressure", desc := "(LMembranePlant;II[J)I" } : Jvm.MethodName)) ∈ AW := AW_in 489 (by decide +kernel) rfl
theorem q463 : (Jvm.Cond.static ({ cls := "MembranePlantLaw", name := "setPressure", desc := "(LMembranePlant;II[J)I" } : Jvm.MethodName)) ∈ AW := AW_in 490 (by decide +kernel) rfl
theorem q464 : (Jvm.Cond.codeWith ({ cls := "MembranePlantLaw", name := "setPressure", desc := "(LMembranePlant;II[J)I" } : Jvm.MethodName) method_4_code (5 : Nat) (Option.some Jvm.ClassFile.FieldType.int) [((0 : Nat), (10 : Nat), (13 : Nat), (21 : Nat)), ((0 : Nat), (10 : Nat), (17 : Nat), (13 : Nat))]) ∈ AW := AW_in 491 (by decide +kernel) rfl
theorem q465 : (Jvm.Cond.classLink "MembranePlantLaw" (21 : Nat) "java/lang/IndexOutOfBoundsException") ∈ AW := AW_in 492 (by decide +kernel) rfl
theorem q466 : (Jvm.Cond.instantiable "java/lang/ArrayIndexOutOfBoundsException" (6 : Nat)) ∈ AW := AW_in 493 (by decide +kernel) rfl
theorem q467 : (Jvm.Cond.instanceMethod ({ cls := "java/lang/ArrayIndexOutOfBoundsException", name := "<init>", desc := "(Ljava/lang/String;)V" } : Jvm.MethodName)) ∈ AW := AW_in 494 (by decide +kernel) rfl
theorem q468 : (Jvm.Cond.code ({ cls := "java/lang/ArrayIndexOutOfBoundsException", name := "<init>", desc := "(Ljava/lang/String;)V" } : Jvm.MethodName) prog_11_method_2_code (2 : Nat) (Option.none : Option Jvm.ClassFile.FieldType)) ∈ AW := AW_in 495 (by decide +kernel) rfl
theorem q469 : (Jvm.Cond.methodLink "java/lang/ArrayIndexOutOfBoundsException" (7 : Nat) ({ cls := "java/lang/IndexOutOfBoundsException", name := "<init>", desc := "(Ljava/lang/String;)V" } : Jvm.MethodName)) ∈ AW := AW_in 496 (by decide +kernel) rfl
theorem q470 : (Jvm.Cond.instanceMethod ({ cls := "java/lang/IndexOutOfBoundsException", name := "<init>", desc := "(Ljava/lang/String;)V" } : Jvm.MethodName)) ∈ AW := AW_in 497 (by decide +kernel) rfl
theorem q471 : (Jvm.Cond.code ({ cls := "java/lang/IndexOutOfBoundsException", name := "<init>", desc := "(Ljava/lang/String;)V" } : Jvm.MethodName) prog_15_method_2_code (2 : Nat) (Option.none : Option Jvm.ClassFile.FieldType)) ∈ AW := AW_in 498 (by decide +kernel) rfl
theorem q472 : (Jvm.Cond.methodLink "java/lang/IndexOutOfBoundsException" (7 : Nat) ({ cls := "java/lang/RuntimeException", name := "<init>", desc := "(Ljava/lang/String;)V" } : Jvm.MethodName)) ∈ AW := AW_in 499 (by decide +kernel) rfl
theorem q483 : (Jvm.Cond.selects "java/lang/ArrayIndexOutOfBoundsException" ({ cls := "java/lang/Throwable", name := "fillInStackTrace", desc := "(I)Ljava/lang/Throwable;" } : Jvm.MethodName) ({ cls := "java/lang/Throwable", name := "fillInStackTrace", desc := "(I)Ljava/lang/Throwable;" } : Jvm.MethodName)) ∈ AW := AW_in 510 (by decide +kernel) rfl
theorem q484 : (Jvm.Cond.instantiable "java/lang/String" (4 : Nat)) ∈ AW := AW_in 511 (by decide +kernel) rfl
theorem q489 : (Jvm.Cond.methodLink "MembranePlantLaw" (17 : Nat) ({ cls := "MembranePlant", name := "setPressure", desc := "(II)I" } : Jvm.MethodName)) ∈ AW := AW_in 516 (by decide +kernel) rfl
theorem q490 : (Jvm.Cond.instanceMethod ({ cls := "MembranePlant", name := "setPressure", desc := "(II)I" } : Jvm.MethodName)) ∈ AW := AW_in 517 (by decide +kernel) rfl
theorem q491 : (Jvm.Cond.selects "MembranePlant" ({ cls := "MembranePlant", name := "setPressure", desc := "(II)I" } : Jvm.MethodName) ({ cls := "MembranePlant", name := "setPressure", desc := "(II)I" } : Jvm.MethodName)) ∈ AW := AW_in 518 (by decide +kernel) rfl
theorem q492 : (Jvm.Cond.code ({ cls := "MembranePlant", name := "setPressure", desc := "(II)I" } : Jvm.MethodName) prog_1_method_3_code (4 : Nat) (Option.some Jvm.ClassFile.FieldType.int)) ∈ AW := AW_in 519 (by decide +kernel) rfl
theorem q493 : (Jvm.Cond.methodLink "MembranePlant" (74 : Nat) ({ cls := "MembranePlant", name := "checkTrain", desc := "(I)V" } : Jvm.MethodName)) ∈ AW := AW_in 520 (by decide +kernel) rfl
theorem q495 : (Jvm.Cond.instanceMethod ({ cls := "MembranePlant", name := "checkTrain", desc := "(I)V" } : Jvm.MethodName)) ∈ AW := AW_in 522 (by decide +kernel) rfl
theorem q496 : (Jvm.Cond.code ({ cls := "MembranePlant", name := "checkTrain", desc := "(I)V" } : Jvm.MethodName) prog_1_method_41_code (2 : Nat) (Option.none : Option Jvm.ClassFile.FieldType)) ∈ AW := AW_in 523 (by decide +kernel) rfl
theorem q497 : (Jvm.Cond.classLink "MembranePlant" (207 : Nat) "java/lang/IndexOutOfBoundsException") ∈ AW := AW_in 524 (by decide +kernel) rfl
theorem q498 : (Jvm.Cond.instantiable "java/lang/IndexOutOfBoundsException" (6 : Nat)) ∈ AW := AW_in 525 (by decide +kernel) rfl
theorem q500 : (Jvm.Cond.selects "java/lang/IndexOutOfBoundsException" ({ cls := "java/lang/Throwable", name := "fillInStackTrace", desc := "(I)Ljava/lang/Throwable;" } : Jvm.MethodName) ({ cls := "java/lang/Throwable", name := "fillInStackTrace", desc := "(I)Ljava/lang/Throwable;" } : Jvm.MethodName)) ∈ AW := AW_in 527 (by decide +kernel) rfl
theorem q507 : (Jvm.Cond.methodLink "MembranePlant" (211 : Nat) ({ cls := "java/lang/IndexOutOfBoundsException", name := "<init>", desc := "(Ljava/lang/String;)V" } : Jvm.MethodName)) ∈ AW := AW_in 534 (by decide +kernel) rfl
theorem q510 : (Jvm.Cond.methodLink "MembranePlantLaw" (126 : Nat) ({ cls := "MembranePlantLaw", name := "setSalinity", desc := "(LMembranePlant;I[J)I" } : Jvm.MethodName)) ∈ AW := AW_in 537 (by decide +kernel) rfl
theorem q511 : (Jvm.Cond.static ({ cls := "MembranePlantLaw", name := "setSalinity", desc := "(LMembranePlant;I[J)I" } : Jvm.MethodName)) ∈ AW := AW_in 538 (by decide +kernel) rfl
theorem q512 : (Jvm.Cond.codeWith ({ cls := "MembranePlantLaw", name := "setSalinity", desc := "(LMembranePlant;I[J)I" } : Jvm.MethodName) method_5_code (4 : Nat) (Option.some Jvm.ClassFile.FieldType.int) [((0 : Nat), (9 : Nat), (12 : Nat), (13 : Nat))]) ∈ AW := AW_in 539 (by decide +kernel) rfl
theorem q513 : (Jvm.Cond.methodLink "MembranePlantLaw" (23 : Nat) ({ cls := "MembranePlant", name := "setSalinity", desc := "(I)I" } : Jvm.MethodName)) ∈ AW := AW_in 540 (by decide +kernel) rfl
theorem q514 : (Jvm.Cond.instanceMethod ({ cls := "MembranePlant", name := "setSalinity", desc := "(I)I" } : Jvm.MethodName)) ∈ AW := AW_in 541 (by decide +kernel) rfl
theorem q515 : (Jvm.Cond.selects "MembranePlant" ({ cls := "MembranePlant", name := "setSalinity", desc := "(I)I" } : Jvm.MethodName) ({ cls := "MembranePlant", name := "setSalinity", desc := "(I)I" } : Jvm.MethodName)) ∈ AW := AW_in 542 (by decide +kernel) rfl
theorem q516 : (Jvm.Cond.code ({ cls := "MembranePlant", name := "setSalinity", desc := "(I)I" } : Jvm.MethodName) prog_1_method_4_code (3 : Nat) (Option.some Jvm.ClassFile.FieldType.int)) ∈ AW := AW_in 543 (by decide +kernel) rfl
theorem q517 : (Jvm.Cond.methodLink "MembranePlantLaw" (129 : Nat) ({ cls := "MembranePlantLaw", name := "setRecovery", desc := "(LMembranePlant;I[J)I" } : Jvm.MethodName)) ∈ AW := AW_in 544 (by decide +kernel) rfl
theorem q518 : (Jvm.Cond.static ({ cls := "MembranePlantLaw", name := "setRecovery", desc := "(LMembranePlant;I[J)I" } : Jvm.MethodName)) ∈ AW := AW_in 545 (by decide +kernel) rfl
theorem q519 : (Jvm.Cond.codeWith ({ cls := "MembranePlantLaw", name := "setRecovery", desc := "(LMembranePlant;I[J)I" } : Jvm.MethodName) method_6_code (4 : Nat) (Option.some Jvm.ClassFile.FieldType.int) [((0 : Nat), (9 : Nat), (12 : Nat), (13 : Nat))]) ∈ AW := AW_in 546 (by decide +kernel) rfl
theorem q520 : (Jvm.Cond.methodLink "MembranePlantLaw" (26 : Nat) ({ cls := "MembranePlant", name := "setRecovery", desc := "(I)I" } : Jvm.MethodName)) ∈ AW := AW_in 547 (by decide +kernel) rfl
theorem q521 : (Jvm.Cond.instanceMethod ({ cls := "MembranePlant", name := "setRecovery", desc := "(I)I" } : Jvm.MethodName)) ∈ AW := AW_in 548 (by decide +kernel) rfl
theorem q522 : (Jvm.Cond.selects "MembranePlant" ({ cls := "MembranePlant", name := "setRecovery", desc := "(I)I" } : Jvm.MethodName) ({ cls := "MembranePlant", name := "setRecovery", desc := "(I)I" } : Jvm.MethodName)) ∈ AW := AW_in 549 (by decide +kernel) rfl
theorem q523 : (Jvm.Cond.code ({ cls := "MembranePlant", name := "setRecovery", desc := "(I)I" } : Jvm.MethodName) prog_1_method_5_code (3 : Nat) (Option.some Jvm.ClassFile.FieldType.int)) ∈ AW := AW_in 550 (by decide +kernel) rfl
theorem q524 : (Jvm.Cond.methodLink "MembranePlantLaw" (132 : Nat) ({ cls := "MembranePlantLaw", name := "clean", desc := "(LMembranePlant;I[J)I" } : Jvm.MethodName)) ∈ AW := AW_in 551 (by decide +kernel) rfl
theorem q525 : (Jvm.Cond.static ({ cls := "MembranePlantLaw", name := "clean", desc := "(LMembranePlant;I[J)I" } : Jvm.MethodName)) ∈ AW := AW_in 552 (by decide +kernel) rfl
theorem q526 : (Jvm.Cond.codeWith ({ cls := "MembranePlantLaw", name := "clean", desc := "(LMembranePlant;I[J)I" } : Jvm.MethodName) method_7_code (4 : Nat) (Option.some Jvm.ClassFile.FieldType.int) [((0 : Nat), (9 : Nat), (12 : Nat), (21 : Nat)), ((0 : Nat), (9 : Nat), (15 : Nat), (15 : Nat)), ((0 : Nat), (9 : Nat), (18 : Nat), (32 : Nat))]) ∈ AW := AW_in 553 (by decide +kernel) rfl
theorem q527 : (Jvm.Cond.classLink "MembranePlantLaw" (32 : Nat) "java/lang/UnsupportedOperationException") ∈ AW := AW_in 554 (by decide +kernel) rfl
theorem q528 : (Jvm.Cond.methodLink "MembranePlantLaw" (29 : Nat) ({ cls := "MembranePlant", name := "clean", desc := "(I)I" } : Jvm.MethodName)) ∈ AW := AW_in 555 (by decide +kernel) rfl
theorem q529 : (Jvm.Cond.instanceMethod ({ cls := "MembranePlant", name := "clean", desc := "(I)I" } : Jvm.MethodName)) ∈ AW := AW_in 556 (by decide +kernel) rfl
theorem q530 : (Jvm.Cond.selects "MembranePlant" ({ cls := "MembranePlant", name := "clean", desc := "(I)I" } : Jvm.MethodName) ({ cls := "MembranePlant", name := "clean", desc := "(I)I" } : Jvm.MethodName)) ∈ AW := AW_in 557 (by decide +kernel) rfl
theorem q531 : (Jvm.Cond.code ({ cls := "MembranePlant", name := "clean", desc := "(I)I" } : Jvm.MethodName) prog_1_method_6_code (3 : Nat) (Option.some Jvm.ClassFile.FieldType.int)) ∈ AW := AW_in 558 (by decide +kernel) rfl
theorem q532 : (Jvm.Cond.methodLink "MembranePlant" (84 : Nat) ({ cls := "MembranePlant", name := "checkReady", desc := "(I)V" } : Jvm.MethodName)) ∈ AW := AW_in 559 (by decide +kernel) rfl
theorem q534 : (Jvm.Cond.instanceMethod ({ cls := "MembranePlant", name := "checkReady", desc := "(I)V" } : Jvm.MethodName)) ∈ AW := AW_in 561 (by decide +kernel) rfl
theorem q535 : (Jvm.Cond.code ({ cls := "MembranePlant", name := "checkReady", desc := "(I)V" } : Jvm.MethodName) prog_1_method_42_code (2 : Nat) (Option.none : Option Jvm.ClassFile.FieldType)) ∈ AW := AW_in 562 (by decide +kernel) rfl
theorem q537 : (Jvm.Cond.classLink "MembranePlant" (93 : Nat) "java/lang/UnsupportedOperationException") ∈ AW := AW_in 564 (by decide +kernel) rfl
theorem q538 : (Jvm.Cond.instantiable "java/lang/UnsupportedOperationException" (6 : Nat)) ∈ AW := AW_in 565 (by decide +kernel) rfl
theorem q540 : (Jvm.Cond.selects "java/lang/UnsupportedOperationException" ({ cls := "java/lang/Throwable", name := "fillInStackTrace", desc := "(I)Ljava/lang/Throwable;" } : Jvm.MethodName) ({ cls := "java/lang/Throwable", name := "fillInStackTrace", desc := "(I)Ljava/lang/Throwable;" } : Jvm.MethodName)) ∈ AW := AW_in 567 (by decide +kernel) rfl
theorem q547 : (Jvm.Cond.methodLink "MembranePlant" (97 : Nat) ({ cls := "java/lang/UnsupportedOperationException", name := "<init>", desc := "(Ljava/lang/String;)V" } : Jvm.MethodName)) ∈ AW := AW_in 574 (by decide +kernel) rfl
theorem q548 : (Jvm.Cond.instanceMethod ({ cls := "java/lang/UnsupportedOperationException", name := "<init>", desc := "(Ljava/lang/String;)V" } : Jvm.MethodName)) ∈ AW := AW_in 575 (by decide +kernel) rfl
theorem q549 : (Jvm.Cond.code ({ cls := "java/lang/UnsupportedOperationException", name := "<init>", desc := "(Ljava/lang/String;)V" } : Jvm.MethodName) prog_21_method_2_code (2 : Nat) (Option.none : Option Jvm.ClassFile.FieldType)) ∈ AW := AW_in 576 (by decide +kernel) rfl
theorem q550 : (Jvm.Cond.methodLink "java/lang/UnsupportedOperationException" (7 : Nat) ({ cls := "java/lang/RuntimeException", name := "<init>", desc := "(Ljava/lang/String;)V" } : Jvm.MethodName)) ∈ AW := AW_in 577 (by decide +kernel) rfl
theorem q553 : (Jvm.Cond.methodLink "MembranePlantLaw" (135 : Nat) ({ cls := "MembranePlantLaw", name := "fouling", desc := "(LMembranePlant;I[J)I" } : Jvm.MethodName)) ∈ AW := AW_in 580 (by decide +kernel) rfl
theorem q554 : (Jvm.Cond.static ({ cls := "MembranePlantLaw", name := "fouling", desc := "(LMembranePlant;I[J)I" } : Jvm.MethodName)) ∈ AW := AW_in 581 (by decide +kernel) rfl
theorem q555 : (Jvm.Cond.codeWith ({ cls := "MembranePlantLaw", name := "fouling", desc := "(LMembranePlant;I[J)I" } : Jvm.MethodName) method_8_code (4 : Nat) (Option.some Jvm.ClassFile.FieldType.int) [((0 : Nat), (9 : Nat), (12 : Nat), (21 : Nat))]) ∈ AW := AW_in 582 (by decide +kernel) rfl
theorem q556 : (Jvm.Cond.methodLink "MembranePlantLaw" (34 : Nat) ({ cls := "MembranePlant", name := "fouling", desc := "(I)I" } : Jvm.MethodName)) ∈ AW := AW_in 583 (by decide +kernel) rfl
theorem q557 : (Jvm.Cond.instanceMethod ({ cls := "MembranePlant", name := "fouling", desc := "(I)I" } : Jvm.MethodName)) ∈ AW := AW_in 584 (by decide +kernel) rfl
theorem q558 : (Jvm.Cond.selects "MembranePlant" ({ cls := "MembranePlant", name := "fouling", desc := "(I)I" } : Jvm.MethodName) ({ cls := "MembranePlant", name := "fouling", desc := "(I)I" } : Jvm.MethodName)) ∈ AW := AW_in 585 (by decide +kernel) rfl
theorem q559 : (Jvm.Cond.code ({ cls := "MembranePlant", name := "fouling", desc := "(I)I" } : Jvm.MethodName) prog_1_method_7_code (2 : Nat) (Option.some Jvm.ClassFile.FieldType.int)) ∈ AW := AW_in 586 (by decide +kernel) rfl
theorem q560 : (Jvm.Cond.methodLink "MembranePlantLaw" (138 : Nat) ({ cls := "MembranePlantLaw", name := "wear", desc := "(LMembranePlant;I[J)I" } : Jvm.MethodName)) ∈ AW := AW_in 587 (by decide +kernel) rfl
theorem q561 : (Jvm.Cond.static ({ cls := "MembranePlantLaw", name := "wear", desc := "(LMembranePlant;I[J)I" } : Jvm.MethodName)) ∈ AW := AW_in 588 (by decide +kernel) rfl
theorem q562 : (Jvm.Cond.codeWith ({ cls := "MembranePlantLaw", name := "wear", desc := "(LMembranePlant;I[J)I" } : Jvm.MethodName) method_9_code (4 : Nat) (Option.some Jvm.ClassFile.FieldType.int) [((0 : Nat), (9 : Nat), (12 : Nat), (21 : Nat))]) ∈ AW := AW_in 589 (by decide +kernel) rfl
theorem q563 : (Jvm.Cond.methodLink "MembranePlantLaw" (37 : Nat) ({ cls := "MembranePlant", name := "wear", desc := "(I)I" } : Jvm.MethodName)) ∈ AW := AW_in 590 (by decide +kernel) rfl
theorem q564 : (Jvm.Cond.instanceMethod ({ cls := "MembranePlant", name := "wear", desc := "(I)I" } : Jvm.MethodName)) ∈ AW := AW_in 591 (by decide +kernel) rfl
theorem q565 : (Jvm.Cond.selects "MembranePlant" ({ cls := "MembranePlant", name := "wear", desc := "(I)I" } : Jvm.MethodName) ({ cls := "MembranePlant", name := "wear", desc := "(I)I" } : Jvm.MethodName)) ∈ AW := AW_in 592 (by decide +kernel) rfl
theorem q566 : (Jvm.Cond.code ({ cls := "MembranePlant", name := "wear", desc := "(I)I" } : Jvm.MethodName) prog_1_method_8_code (2 : Nat) (Option.some Jvm.ClassFile.FieldType.int)) ∈ AW := AW_in 593 (by decide +kernel) rfl
theorem q567 : (Jvm.Cond.methodLink "MembranePlantLaw" (141 : Nat) ({ cls := "MembranePlantLaw", name := "cleaningLeft", desc := "(LMembranePlant;I[J)I" } : Jvm.MethodName)) ∈ AW := AW_in 594 (by decide +kernel) rfl
theorem q568 : (Jvm.Cond.static ({ cls := "MembranePlantLaw", name := "cleaningLeft", desc := "(LMembranePlant;I[J)I" } : Jvm.MethodName)) ∈ AW := AW_in 595 (by decide +kernel) rfl
theorem q569 : (Jvm.Cond.codeWith ({ cls := "MembranePlantLaw", name := "cleaningLeft", desc := "(LMembranePlant;I[J)I" } : Jvm.MethodName) method_10_code (4 : Nat) (Option.some Jvm.ClassFile.FieldType.int) [((0 : Nat), (9 : Nat), (12 : Nat), (21 : Nat))]) ∈ AW := AW_in 596 (by decide +kernel) rfl
theorem q570 : (Jvm.Cond.methodLink "MembranePlantLaw" (40 : Nat) ({ cls := "MembranePlant", name := "cleaningLeft", desc := "(I)I" } : Jvm.MethodName)) ∈ AW := AW_in 597 (by decide +kernel) rfl
theorem q571 : (Jvm.Cond.instanceMethod ({ cls := "MembranePlant", name := "cleaningLeft", desc := "(I)I" } : Jvm.MethodName)) ∈ AW := AW_in 598 (by decide +kernel) rfl
theorem q572 : (Jvm.Cond.selects "MembranePlant" ({ cls := "MembranePlant", name := "cleaningLeft", desc := "(I)I" } : Jvm.MethodName) ({ cls := "MembranePlant", name := "cleaningLeft", desc := "(I)I" } : Jvm.MethodName)) ∈ AW := AW_in 599 (by decide +kernel) rfl
theorem q573 : (Jvm.Cond.code ({ cls := "MembranePlant", name := "cleaningLeft", desc := "(I)I" } : Jvm.MethodName) prog_1_method_9_code (2 : Nat) (Option.some Jvm.ClassFile.FieldType.int)) ∈ AW := AW_in 600 (by decide +kernel) rfl
theorem q574 : (Jvm.Cond.methodLink "MembranePlantLaw" (144 : Nat) ({ cls := "MembranePlantLaw", name := "productOf", desc := "(LMembranePlant;I[J)I" } : Jvm.MethodName)) ∈ AW := AW_in 601 (by decide +kernel) rfl
theorem q575 : (Jvm.Cond.static ({ cls := "MembranePlantLaw", name := "productOf", desc := "(LMembranePlant;I[J)I" } : Jvm.MethodName)) ∈ AW := AW_in 602 (by decide +kernel) rfl
theorem q576 : (Jvm.Cond.codeWith ({ cls := "MembranePlantLaw", name := "productOf", desc := "(LMembranePlant;I[J)I" } : Jvm.MethodName) method_11_code (4 : Nat) (Option.some Jvm.ClassFile.FieldType.int) [((0 : Nat), (9 : Nat), (12 : Nat), (21 : Nat)), ((0 : Nat), (9 : Nat), (15 : Nat), (15 : Nat))]) ∈ AW := AW_in 603 (by decide +kernel) rfl
theorem q577 : (Jvm.Cond.methodLink "MembranePlantLaw" (43 : Nat) ({ cls := "MembranePlant", name := "productOf", desc := "(I)I" } : Jvm.MethodName)) ∈ AW := AW_in 604 (by decide +kernel) rfl
theorem q578 : (Jvm.Cond.instanceMethod ({ cls := "MembranePlant", name := "productOf", desc := "(I)I" } : Jvm.MethodName)) ∈ AW := AW_in 605 (by decide +kernel) rfl
theorem q579 : (Jvm.Cond.selects "MembranePlant" ({ cls := "MembranePlant", name := "productOf", desc := "(I)I" } : Jvm.MethodName) ({ cls := "MembranePlant", name := "productOf", desc := "(I)I" } : Jvm.MethodName)) ∈ AW := AW_in 606 (by decide +kernel) rfl
theorem q580 : (Jvm.Cond.code ({ cls := "MembranePlant", name := "productOf", desc := "(I)I" } : Jvm.MethodName) prog_1_method_10_code (2 : Nat) (Option.some Jvm.ClassFile.FieldType.int)) ∈ AW := AW_in 607 (by decide +kernel) rfl
theorem q581 : (Jvm.Cond.methodLink "MembranePlant" (111 : Nat) ({ cls := "MembranePlant$Settings", name := "productAt", desc := "(II)I" } : Jvm.MethodName)) ∈ AW := AW_in 608 (by decide +kernel) rfl
theorem q582 : (Jvm.Cond.methodLink "MembranePlantLaw" (147 : Nat) ({ cls := "MembranePlantLaw", name := "energyOf", desc := "(LMembranePlant;I[J)I" } : Jvm.MethodName)) ∈ AW := AW_in 609 (by decide +kernel) rfl
theorem q583 : (Jvm.Cond.static ({ cls := "MembranePlantLaw", name := "energyOf", desc := "(LMembranePlant;I[J)I" } : Jvm.MethodName)) ∈ AW := AW_in 610 (by decide +kernel) rfl
theorem q584 : (Jvm.Cond.codeWith ({ cls := "MembranePlantLaw", name := "energyOf", desc := "(LMembranePlant;I[J)I" } : Jvm.MethodName) method_12_code (4 : Nat) (Option.some Jvm.ClassFile.FieldType.int) [((0 : Nat), (9 : Nat), (12 : Nat), (21 : Nat)), ((0 : Nat), (9 : Nat), (15 : Nat), (15 : Nat))]) ∈ AW := AW_in 611 (by decide +kernel) rfl
theorem q585 : (Jvm.Cond.methodLink "MembranePlantLaw" (46 : Nat) ({ cls := "MembranePlant", name := "energyOf", desc := "(I)I" } : Jvm.MethodName)) ∈ AW := AW_in 612 (by decide +kernel) rfl
theorem q586 : (Jvm.Cond.instanceMethod ({ cls := "MembranePlant", name := "energyOf", desc := "(I)I" } : Jvm.MethodName)) ∈ AW := AW_in 613 (by decide +kernel) rfl
theorem q587 : (Jvm.Cond.selects "MembranePlant" ({ cls := "MembranePlant", name := "energyOf", desc := "(I)I" } : Jvm.MethodName) ({ cls := "MembranePlant", name := "energyOf", desc := "(I)I" } : Jvm.MethodName)) ∈ AW := AW_in 614 (by decide +kernel) rfl
theorem q588 : (Jvm.Cond.code ({ cls := "MembranePlant", name := "energyOf", desc := "(I)I" } : Jvm.MethodName) prog_1_method_11_code (3 : Nat) (Option.some Jvm.ClassFile.FieldType.int)) ∈ AW := AW_in 615 (by decide +kernel) rfl
theorem q589 : (Jvm.Cond.methodLink "MembranePlant" (115 : Nat) ({ cls := "MembranePlant$Settings", name := "feedFor", desc := "(I)I" } : Jvm.MethodName)) ∈ AW := AW_in 616 (by decide +kernel) rfl
theorem q590 : (Jvm.Cond.methodLink "MembranePlant" (119 : Nat) ({ cls := "MembranePlant$Settings", name := "energyFor", desc := "(II)I" } : Jvm.MethodName)) ∈ AW := AW_in 617 (by decide +kernel) rfl
theorem q591 : (Jvm.Cond.methodLink "MembranePlantLaw" (154 : Nat) ({ cls := "MembranePlantLaw", name := "addTank", desc := "(LMembranePlant;I[J)I" } : Jvm.MethodName)) ∈ AW := AW_in 618 (by decide +kernel) rfl
theorem q592 : (Jvm.Cond.static ({ cls := "MembranePlantLaw", name := "addTank", desc := "(LMembranePlant;I[J)I" } : Jvm.MethodName)) ∈ AW := AW_in 619 (by decide +kernel) rfl
theorem q593 : (Jvm.Cond.codeWith ({ cls := "MembranePlantLaw", name := "addTank", desc := "(LMembranePlant;I[J)I" } : Jvm.MethodName) method_13_code (4 : Nat) (Option.some Jvm.ClassFile.FieldType.int) [((0 : Nat), (9 : Nat), (12 : Nat), (13 : Nat)), ((0 : Nat), (9 : Nat), (15 : Nat), (15 : Nat))]) ∈ AW := AW_in 620 (by decide +kernel) rfl
theorem q594 : (Jvm.Cond.methodLink "MembranePlantLaw" (49 : Nat) ({ cls := "MembranePlant", name := "addTank", desc := "(I)I" } : Jvm.MethodName)) ∈ AW := AW_in 621 (by decide +kernel) rfl
theorem q595 : (Jvm.Cond.instanceMethod ({ cls := "MembranePlant", name := "addTank", desc := "(I)I" } : Jvm.MethodName)) ∈ AW := AW_in 622 (by decide +kernel) rfl
theorem q596 : (Jvm.Cond.selects "MembranePlant" ({ cls := "MembranePlant", name := "addTank", desc := "(I)I" } : Jvm.MethodName) ({ cls := "MembranePlant", name := "addTank", desc := "(I)I" } : Jvm.MethodName)) ∈ AW := AW_in 623 (by decide +kernel) rfl
theorem q597 : (Jvm.Cond.code ({ cls := "MembranePlant", name := "addTank", desc := "(I)I" } : Jvm.MethodName) prog_1_method_13_code (3 : Nat) (Option.some Jvm.ClassFile.FieldType.int)) ∈ AW := AW_in 624 (by decide +kernel) rfl
theorem q599 : (Jvm.Cond.methodLink "MembranePlantLaw" (157 : Nat) ({ cls := "MembranePlantLaw", name := "setDemand", desc := "(LMembranePlant;IIII[J)I" } : Jvm.MethodName)) ∈ AW := AW_in 626 (by decide +kernel) rfl
theorem q600 : (Jvm.Cond.static ({ cls := "MembranePlantLaw", name := "setDemand", desc := "(LMembranePlant;IIII[J)I" } : Jvm.MethodName)) ∈ AW := AW_in 627 (by decide +kernel) rfl
theorem q601 : (Jvm.Cond.codeWith ({ cls := "MembranePlantLaw", name := "setDemand", desc := "(LMembranePlant;IIII[J)I" } : Jvm.MethodName) method_14_code (7 : Nat) (Option.some Jvm.ClassFile.FieldType.int) [((0 : Nat), (14 : Nat), (17 : Nat), (21 : Nat)), ((0 : Nat), (14 : Nat), (21 : Nat), (13 : Nat))]) ∈ AW := AW_in 628 (by decide +kernel) rfl
theorem q602 : (Jvm.Cond.methodLink "MembranePlantLaw" (52 : Nat) ({ cls := "MembranePlant", name := "setDemand", desc := "(IIII)I" } : Jvm.MethodName)) ∈ AW := AW_in 629 (by decide +kernel) rfl
theorem q603 : (Jvm.Cond.instanceMethod ({ cls := "MembranePlant", name := "setDemand", desc := "(IIII)I" } : Jvm.MethodName)) ∈ AW := AW_in 630 (by decide +kernel) rfl
theorem q604 : (Jvm.Cond.selects "MembranePlant" ({ cls := "MembranePlant", name := "setDemand", desc := "(IIII)I" } : Jvm.MethodName) ({ cls := "MembranePlant", name := "setDemand", desc := "(IIII)I" } : Jvm.MethodName)) ∈ AW := AW_in 631 (by decide +kernel) rfl
theorem q605 : (Jvm.Cond.code ({ cls := "MembranePlant", name := "setDemand", desc := "(IIII)I" } : Jvm.MethodName) prog_1_method_14_code (5 : Nat) (Option.some Jvm.ClassFile.FieldType.int)) ∈ AW := AW_in 632 (by decide +kernel) rfl
theorem q606 : (Jvm.Cond.methodLink "MembranePlant" (127 : Nat) ({ cls := "MembranePlant", name := "checkTank", desc := "(I)V" } : Jvm.MethodName)) ∈ AW := AW_in 633 (by decide +kernel) rfl
theorem q608 : (Jvm.Cond.instanceMethod ({ cls := "MembranePlant", name := "checkTank", desc := "(I)V" } : Jvm.MethodName)) ∈ AW := AW_in 635 (by decide +kernel) rfl
theorem q609 : (Jvm.Cond.code ({ cls := "MembranePlant", name := "checkTank", desc := "(I)V" } : Jvm.MethodName) prog_1_method_43_code (2 : Nat) (Option.none : Option Jvm.ClassFile.FieldType)) ∈ AW := AW_in 636 (by decide +kernel) rfl
theorem q611 : (Jvm.Cond.methodLink "MembranePlant" (130 : Nat) ({ cls := "MembranePlant", name := "checkSlots", desc := "(II)V" } : Jvm.MethodName)) ∈ AW := AW_in 638 (by decide +kernel) rfl
theorem q612 : (Jvm.Cond.static ({ cls := "MembranePlant", name := "checkSlots", desc := "(II)V" } : Jvm.MethodName)) ∈ AW := AW_in 639 (by decide +kernel) rfl
theorem q613 : (Jvm.Cond.code ({ cls := "MembranePlant", name := "checkSlots", desc := "(II)V" } : Jvm.MethodName) prog_1_method_39_code (2 : Nat) (Option.none : Option Jvm.ClassFile.FieldType)) ∈ AW := AW_in 640 (by decide +kernel) rfl
theorem q614 : (Jvm.Cond.methodLink "MembranePlant" (138 : Nat) ({ cls := "MembranePlant", name := "fillSlots", desc := "([IIII)I" } : Jvm.MethodName)) ∈ AW := AW_in 641 (by decide +kernel) rfl
theorem q615 : (Jvm.Cond.static ({ cls := "MembranePlant", name := "fillSlots", desc := "([IIII)I" } : Jvm.MethodName)) ∈ AW := AW_in 642 (by decide +kernel) rfl
theorem q616 : (Jvm.Cond.code ({ cls := "MembranePlant", name := "fillSlots", desc := "([IIII)I" } : Jvm.MethodName) prog_1_method_44_code (6 : Nat) (Option.some Jvm.ClassFile.FieldType.int)) ∈ AW := AW_in 643 (by decide +kernel) rfl
theorem q617 : (Jvm.Cond.methodLink "MembranePlantLaw" (161 : Nat) ({ cls := "MembranePlantLaw", name := "setPrice", desc := "(LMembranePlant;III[J)I" } : Jvm.MethodName)) ∈ AW := AW_in 644 (by decide +kernel) rfl
theorem q618 : (Jvm.Cond.static ({ cls := "MembranePlantLaw", name := "setPrice", desc := "(LMembranePlant;III[J)I" } : Jvm.MethodName)) ∈ AW := AW_in 645 (by decide +kernel) rfl
theorem q619 : (Jvm.Cond.codeWith ({ cls := "MembranePlantLaw", name := "setPrice", desc := "(LMembranePlant;III[J)I" } : Jvm.MethodName) method_15_code (6 : Nat) (Option.some Jvm.ClassFile.FieldType.int) [((0 : Nat), (12 : Nat), (15 : Nat), (13 : Nat))]) ∈ AW := AW_in 646 (by decide +kernel) rfl
theorem q620 : (Jvm.Cond.methodLink "MembranePlantLaw" (56 : Nat) ({ cls := "MembranePlant", name := "setPrice", desc := "(III)I" } : Jvm.MethodName)) ∈ AW := AW_in 647 (by decide +kernel) rfl
theorem q621 : (Jvm.Cond.instanceMethod ({ cls := "MembranePlant", name := "setPrice", desc := "(III)I" } : Jvm.MethodName)) ∈ AW := AW_in 648 (by decide +kernel) rfl
theorem q622 : (Jvm.Cond.selects "MembranePlant" ({ cls := "MembranePlant", name := "setPrice", desc := "(III)I" } : Jvm.MethodName) ({ cls := "MembranePlant", name := "setPrice", desc := "(III)I" } : Jvm.MethodName)) ∈ AW := AW_in 649 (by decide +kernel) rfl
theorem q623 : (Jvm.Cond.code ({ cls := "MembranePlant", name := "setPrice", desc := "(III)I" } : Jvm.MethodName) prog_1_method_15_code (4 : Nat) (Option.some Jvm.ClassFile.FieldType.int)) ∈ AW := AW_in 650 (by decide +kernel) rfl
theorem q624 : (Jvm.Cond.methodLink "MembranePlantLaw" (165 : Nat) ({ cls := "MembranePlantLaw", name := "demand", desc := "(LMembranePlant;II[J)I" } : Jvm.MethodName)) ∈ AW := AW_in 651 (by decide +kernel) rfl
theorem q625 : (Jvm.Cond.static ({ cls := "MembranePlantLaw", name := "demand", desc := "(LMembranePlant;II[J)I" } : Jvm.MethodName)) ∈ AW := AW_in 652 (by decide +kernel) rfl
theorem q626 : (Jvm.Cond.codeWith ({ cls := "MembranePlantLaw", name := "demand", desc := "(LMembranePlant;II[J)I" } : Jvm.MethodName) method_16_code (5 : Nat) (Option.some Jvm.ClassFile.FieldType.int) [((0 : Nat), (10 : Nat), (13 : Nat), (21 : Nat)), ((0 : Nat), (10 : Nat), (17 : Nat), (13 : Nat))]) ∈ AW := AW_in 653 (by decide +kernel) rfl
theorem q627 : (Jvm.Cond.methodLink "MembranePlantLaw" (60 : Nat) ({ cls := "MembranePlant", name := "demand", desc := "(II)I" } : Jvm.MethodName)) ∈ AW := AW_in 654 (by decide +kernel) rfl
theorem q628 : (Jvm.Cond.instanceMethod ({ cls := "MembranePlant", name := "demand", desc := "(II)I" } : Jvm.MethodName)) ∈ AW := AW_in 655 (by decide +kernel) rfl
theorem q629 : (Jvm.Cond.selects "MembranePlant" ({ cls := "MembranePlant", name := "demand", desc := "(II)I" } : Jvm.MethodName) ({ cls := "MembranePlant", name := "demand", desc := "(II)I" } : Jvm.MethodName)) ∈ AW := AW_in 656 (by decide +kernel) rfl
theorem q630 : (Jvm.Cond.code ({ cls := "MembranePlant", name := "demand", desc := "(II)I" } : Jvm.MethodName) prog_1_method_16_code (3 : Nat) (Option.some Jvm.ClassFile.FieldType.int)) ∈ AW := AW_in 657 (by decide +kernel) rfl
theorem q631 : (Jvm.Cond.methodLink "MembranePlantLaw" (168 : Nat) ({ cls := "MembranePlantLaw", name := "level", desc := "(LMembranePlant;I[J)I" } : Jvm.MethodName)) ∈ AW := AW_in 658 (by decide +kernel) rfl
theorem q632 : (Jvm.Cond.static ({ cls := "MembranePlantLaw", name := "level", desc := "(LMembranePlant;I[J)I" } : Jvm.MethodName)) ∈ AW := AW_in 659 (by decide +kernel) rfl
theorem q633 : (Jvm.Cond.codeWith ({ cls := "MembranePlantLaw", name := "level", desc := "(LMembranePlant;I[J)I" } : Jvm.MethodName) method_17_code (4 : Nat) (Option.some Jvm.ClassFile.FieldType.int) [((0 : Nat), (9 : Nat), (12 : Nat), (21 : Nat))]) ∈ AW := AW_in 660 (by decide +kernel) rfl
theorem q634 : (Jvm.Cond.methodLink "MembranePlantLaw" (63 : Nat) ({ cls := "MembranePlant", name := "level", desc := "(I)I" } : Jvm.MethodName)) ∈ AW := AW_in 661 (by decide +kernel) rfl
theorem q635 : (Jvm.Cond.instanceMethod ({ cls := "MembranePlant", name := "level", desc := "(I)I" } : Jvm.MethodName)) ∈ AW := AW_in 662 (by decide +kernel) rfl
theorem q636 : (Jvm.Cond.selects "MembranePlant" ({ cls := "MembranePlant", name := "level", desc := "(I)I" } : Jvm.MethodName) ({ cls := "MembranePlant", name := "level", desc := "(I)I" } : Jvm.MethodName)) ∈ AW := AW_in 663 (by decide +kernel) rfl
theorem q637 : (Jvm.Cond.code ({ cls := "MembranePlant", name := "level", desc := "(I)I" } : Jvm.MethodName) prog_1_method_17_code (2 : Nat) (Option.some Jvm.ClassFile.FieldType.int)) ∈ AW := AW_in 664 (by decide +kernel) rfl
theorem q638 : (Jvm.Cond.methodLink "MembranePlantLaw" (171 : Nat) ({ cls := "MembranePlantLaw", name := "shortOf", desc := "(LMembranePlant;I[J)I" } : Jvm.MethodName)) ∈ AW := AW_in 665 (by decide +kernel) rfl
theorem q639 : (Jvm.Cond.static ({ cls := "MembranePlantLaw", name := "shortOf", desc := "(LMembranePlant;I[J)I" } : Jvm.MethodName)) ∈ AW := AW_in 666 (by decide +kernel) rfl
theorem q640 : (Jvm.Cond.codeWith ({ cls := "MembranePlantLaw", name := "shortOf", desc := "(LMembranePlant;I[J)I" } : Jvm.MethodName) method_18_code (4 : Nat) (Option.some Jvm.ClassFile.FieldType.int) [((0 : Nat), (9 : Nat), (12 : Nat), (21 : Nat))]) ∈ AW := AW_in 667 (by decide +kernel) rfl
theorem q641 : (Jvm.Cond.methodLink "MembranePlantLaw" (66 : Nat) ({ cls := "MembranePlant", name := "shortOf", desc := "(I)I" } : Jvm.MethodName)) ∈ AW := AW_in 668 (by decide +kernel) rfl
theorem q642 : (Jvm.Cond.instanceMethod ({ cls := "MembranePlant", name := "shortOf", desc := "(I)I" } : Jvm.MethodName)) ∈ AW := AW_in 669 (by decide +kernel) rfl
theorem q643 : (Jvm.Cond.selects "MembranePlant" ({ cls := "MembranePlant", name := "shortOf", desc := "(I)I" } : Jvm.MethodName) ({ cls := "MembranePlant", name := "shortOf", desc := "(I)I" } : Jvm.MethodName)) ∈ AW := AW_in 670 (by decide +kernel) rfl
theorem q644 : (Jvm.Cond.code ({ cls := "MembranePlant", name := "shortOf", desc := "(I)I" } : Jvm.MethodName) prog_1_method_18_code (2 : Nat) (Option.some Jvm.ClassFile.FieldType.int)) ∈ AW := AW_in 671 (by decide +kernel) rfl
theorem q645 : (Jvm.Cond.methodLink "MembranePlantLaw" (179 : Nat) ({ cls := "MembranePlantLaw", name := "run", desc := "(LMembranePlant;I[J)I" } : Jvm.MethodName)) ∈ AW := AW_in 672 (by decide +kernel) rfl
theorem q646 : (Jvm.Cond.static ({ cls := "MembranePlantLaw", name := "run", desc := "(LMembranePlant;I[J)I" } : Jvm.MethodName)) ∈ AW := AW_in 673 (by decide +kernel) rfl
theorem q647 : (Jvm.Cond.codeWith ({ cls := "MembranePlantLaw", name := "run", desc := "(LMembranePlant;I[J)I" } : Jvm.MethodName) method_19_code (4 : Nat) (Option.some Jvm.ClassFile.FieldType.int) [((0 : Nat), (9 : Nat), (12 : Nat), (13 : Nat))]) ∈ AW := AW_in 674 (by decide +kernel) rfl
theorem q648 : (Jvm.Cond.methodLink "MembranePlantLaw" (69 : Nat) ({ cls := "MembranePlant", name := "run", desc := "(I)I" } : Jvm.MethodName)) ∈ AW := AW_in 675 (by decide +kernel) rfl
theorem q649 : (Jvm.Cond.instanceMethod ({ cls := "MembranePlant", name := "run", desc := "(I)I" } : Jvm.MethodName)) ∈ AW := AW_in 676 (by decide +kernel) rfl
theorem q650 : (Jvm.Cond.selects "MembranePlant" ({ cls := "MembranePlant", name := "run", desc := "(I)I" } : Jvm.MethodName) ({ cls := "MembranePlant", name := "run", desc := "(I)I" } : Jvm.MethodName)) ∈ AW := AW_in 677 (by decide +kernel) rfl
theorem q651 : (Jvm.Cond.code ({ cls := "MembranePlant", name := "run", desc := "(I)I" } : Jvm.MethodName) prog_1_method_20_code (5 : Nat) (Option.some Jvm.ClassFile.FieldType.int)) ∈ AW := AW_in 678 (by decide +kernel) rfl
theorem q652 : (Jvm.Cond.methodLink "MembranePlant" (155 : Nat) ({ cls := "MembranePlant$Orders", name := "told", desc := "(I)I" } : Jvm.MethodName)) ∈ AW := AW_in 679 (by decide +kernel) rfl
theorem q653 : (Jvm.Cond.instanceMethod ({ cls := "MembranePlant$Orders", name := "told", desc := "(I)I" } : Jvm.MethodName)) ∈ AW := AW_in 680 (by decide +kernel) rfl
theorem q654 : (Jvm.Cond.selects "MembranePlant$Orders" ({ cls := "MembranePlant$Orders", name := "told", desc := "(I)I" } : Jvm.MethodName) ({ cls := "MembranePlant$Orders", name := "told", desc := "(I)I" } : Jvm.MethodName)) ∈ AW := AW_in 681 (by decide +kernel) rfl
theorem q655 : (Jvm.Cond.code ({ cls := "MembranePlant$Orders", name := "told", desc := "(I)I" } : Jvm.MethodName) prog_3_method_2_code (3 : Nat) (Option.some Jvm.ClassFile.FieldType.int)) ∈ AW := AW_in 682 (by decide +kernel) rfl
theorem q656 : (Jvm.Cond.methodLink "MembranePlant" (158 : Nat) ({ cls := "MembranePlant$Planner", name := "findBest", desc := "(LMembranePlant$State;II)V" } : Jvm.MethodName)) ∈ AW := AW_in 683 (by decide +kernel) rfl
theorem q657 : (Jvm.Cond.instanceMethod ({ cls := "MembranePlant$Planner", name := "findBest", desc := "(LMembranePlant$State;II)V" } : Jvm.MethodName)) ∈ AW := AW_in 684 (by decide +kernel) rfl
theorem q658 : (Jvm.Cond.selects "MembranePlant$Planner" ({ cls := "MembranePlant$Planner", name := "findBest", desc := "(LMembranePlant$State;II)V" } : Jvm.MethodName) ({ cls := "MembranePlant$Planner", name := "findBest", desc := "(LMembranePlant$State;II)V" } : Jvm.MethodName)) ∈ AW := AW_in 685 (by decide +kernel) rfl
theorem q659 : (Jvm.Cond.code ({ cls := "MembranePlant$Planner", name := "findBest", desc := "(LMembranePlant$State;II)V" } : Jvm.MethodName) prog_4_method_3_code (4 : Nat) (Option.none : Option Jvm.ClassFile.FieldType)) ∈ AW := AW_in 686 (by decide +kernel) rfl
theorem q660 : (Jvm.Cond.methodLink "MembranePlant$Planner" (55 : Nat) ({ cls := "MembranePlant$Planner", name := "begin", desc := "(LMembranePlant$State;II)V" } : Jvm.MethodName)) ∈ AW := AW_in 687 (by decide +kernel) rfl
theorem q661 : (Jvm.Cond.instanceMethod ({ cls := "MembranePlant$Planner", name := "begin", desc := "(LMembranePlant$State;II)V" } : Jvm.MethodName)) ∈ AW := AW_in 688 (by decide +kernel) rfl
theorem q662 : (Jvm.Cond.selects "MembranePlant$Planner" ({ cls := "MembranePlant$Planner", name := "begin", desc := "(LMembranePlant$State;II)V" } : Jvm.MethodName) ({ cls := "MembranePlant$Planner", name := "begin", desc := "(LMembranePlant$State;II)V" } : Jvm.MethodName)) ∈ AW := AW_in 689 (by decide +kernel) rfl
theorem q663 : (Jvm.Cond.code ({ cls := "MembranePlant$Planner", name := "begin", desc := "(LMembranePlant$State;II)V" } : Jvm.MethodName) prog_4_method_2_code (5 : Nat) (Option.none : Option Jvm.ClassFile.FieldType)) ∈ AW := AW_in 690 (by decide +kernel) rfl
theorem q664 : (Jvm.Cond.methodLink "MembranePlant$Planner" (33 : Nat) ({ cls := "MembranePlant$State", name := "copy", desc := "(LMembranePlant$State;)V" } : Jvm.MethodName)) ∈ AW := AW_in 691 (by decide +kernel) rfl
theorem q665 : (Jvm.Cond.instanceMethod ({ cls := "MembranePlant$State", name := "copy", desc := "(LMembranePlant$State;)V" } : Jvm.MethodName)) ∈ AW := AW_in 692 (by decide +kernel) rfl
theorem q666 : (Jvm.Cond.selects "MembranePlant$State" ({ cls := "MembranePlant$State", name := "copy", desc := "(LMembranePlant$State;)V" } : Jvm.MethodName) ({ cls := "MembranePlant$State", name := "copy", desc := "(LMembranePlant$State;)V" } : Jvm.MethodName)) ∈ AW := AW_in 693 (by decide +kernel) rfl
theorem q667 : (Jvm.Cond.code ({ cls := "MembranePlant$State", name := "copy", desc := "(LMembranePlant$State;)V" } : Jvm.MethodName) prog_6_method_2_code (2 : Nat) (Option.none : Option Jvm.ClassFile.FieldType)) ∈ AW := AW_in 694 (by decide +kernel) rfl
theorem q668 : (Jvm.Cond.methodLink "MembranePlant$State" (27 : Nat) ({ cls := "java/lang/System", name := "arraycopy", desc := "(Ljava/lang/Object;ILjava/lang/Object;II)V" } : Jvm.MethodName)) ∈ AW := AW_in 695 (by decide +kernel) rfl
theorem q669 : (Jvm.Cond.static ({ cls := "java/lang/System", name := "arraycopy", desc := "(Ljava/lang/Object;ILjava/lang/Object;II)V" } : Jvm.MethodName)) ∈ AW := AW_in 696 (by decide +kernel) rfl
theorem q670 : (Jvm.Cond.native ({ cls := "java/lang/System", name := "arraycopy", desc := "(Ljava/lang/Object;ILjava/lang/Object;II)V" } : Jvm.MethodName)) ∈ AW := AW_in 697 (by decide +kernel) rfl
theorem q671 : (Jvm.Cond.methodLink "MembranePlant$Planner" (37 : Nat) ({ cls := "java/lang/Math", name := "min", desc := "(II)I" } : Jvm.MethodName)) ∈ AW := AW_in 698 (by decide +kernel) rfl
theorem q672 : (Jvm.Cond.methodLink "MembranePlant$Planner" (47 : Nat) ({ cls := "MembranePlant$Orders", name := "told", desc := "(I)I" } : Jvm.MethodName)) ∈ AW := AW_in 699 (by decide +kernel) rfl
theorem q674 : (Jvm.Cond.constant "MembranePlant$Planner" (62 : Nat) (1000000000 : Int32)) ∈ AW := AW_in 701 (by decide +kernel) rfl
theorem q675 : (Jvm.Cond.methodLink "MembranePlant$Planner" (66 : Nat) ({ cls := "MembranePlant$Planner", name := "search", desc := "(LMembranePlant$Planner;III)V" } : Jvm.MethodName)) ∈ AW := AW_in 702 (by decide +kernel) rfl
theorem q676 : (Jvm.Cond.static ({ cls := "MembranePlant$Planner", name := "search", desc := "(LMembranePlant$Planner;III)V" } : Jvm.MethodName)) ∈ AW := AW_in 703 (by decide +kernel) rfl
theorem q677 : (Jvm.Cond.code ({ cls := "MembranePlant$Planner", name := "search", desc := "(LMembranePlant$Planner;III)V" } : Jvm.MethodName) prog_4_method_6_code (5 : Nat) (Option.none : Option Jvm.ClassFile.FieldType)) ∈ AW := AW_in 704 (by decide +kernel) rfl
theorem q678 : (Jvm.Cond.methodLink "MembranePlant$Planner" (73 : Nat) ({ cls := "MembranePlant$Planner", name := "isAsOrdered", desc := "(II)Z" } : Jvm.MethodName)) ∈ AW := AW_in 705 (by decide +kernel) rfl
theorem q680 : (Jvm.Cond.instanceMethod ({ cls := "MembranePlant$Planner", name := "isAsOrdered", desc := "(II)Z" } : Jvm.MethodName)) ∈ AW := AW_in 707 (by decide +kernel) rfl
theorem q681 : (Jvm.Cond.code ({ cls := "MembranePlant$Planner", name := "isAsOrdered", desc := "(II)Z" } : Jvm.MethodName) prog_4_method_7_code (3 : Nat) (Option.some Jvm.ClassFile.FieldType.boolean)) ∈ AW := AW_in 708 (by decide +kernel) rfl
theorem q682 : (Jvm.Cond.methodLink "MembranePlant$Planner" (77 : Nat) ({ cls := "MembranePlant$Planner", name := "canPass", desc := "(II)Z" } : Jvm.MethodName)) ∈ AW := AW_in 709 (by decide +kernel) rfl
theorem q684 : (Jvm.Cond.instanceMethod ({ cls := "MembranePlant$Planner", name := "canPass", desc := "(II)Z" } : Jvm.MethodName)) ∈ AW := AW_in 711 (by decide +kernel) rfl
theorem q685 : (Jvm.Cond.code ({ cls := "MembranePlant$Planner", name := "canPass", desc := "(II)Z" } : Jvm.MethodName) prog_4_method_8_code (4 : Nat) (Option.some Jvm.ClassFile.FieldType.boolean)) ∈ AW := AW_in 712 (by decide +kernel) rfl
theorem q686 : (Jvm.Cond.methodLink "MembranePlant$Planner" (83 : Nat) ({ cls := "MembranePlant$State", name := "letPass", desc := "(LMembranePlant$Settings;IZ)V" } : Jvm.MethodName)) ∈ AW := AW_in 713 (by decide +kernel) rfl
theorem q687 : (Jvm.Cond.constant "MembranePlant" (165 : Nat) (1000000000 : Int32)) ∈ AW := AW_in 714 (by decide +kernel) rfl
theorem q688 : (Jvm.Cond.methodLink "MembranePlant" (169 : Nat) ({ cls := "MembranePlant$Planner", name := "toldBy", desc := "(II)I" } : Jvm.MethodName)) ∈ AW := AW_in 715 (by decide +kernel) rfl
theorem q689 : (Jvm.Cond.instanceMethod ({ cls := "MembranePlant$Planner", name := "toldBy", desc := "(II)I" } : Jvm.MethodName)) ∈ AW := AW_in 716 (by decide +kernel) rfl
theorem q690 : (Jvm.Cond.selects "MembranePlant$Planner" ({ cls := "MembranePlant$Planner", name := "toldBy", desc := "(II)I" } : Jvm.MethodName) ({ cls := "MembranePlant$Planner", name := "toldBy", desc := "(II)I" } : Jvm.MethodName)) ∈ AW := AW_in 717 (by decide +kernel) rfl
theorem q691 : (Jvm.Cond.code ({ cls := "MembranePlant$Planner", name := "toldBy", desc := "(II)I" } : Jvm.MethodName) prog_4_method_4_code (3 : Nat) (Option.some Jvm.ClassFile.FieldType.int)) ∈ AW := AW_in 718 (by decide +kernel) rfl
theorem q692 : (Jvm.Cond.methodLink "MembranePlantLaw" (182 : Nat) ({ cls := "MembranePlantLaw", name := "setHorizon", desc := "(LMembranePlant;I[J)I" } : Jvm.MethodName)) ∈ AW := AW_in 719 (by decide +kernel) rfl
theorem q693 : (Jvm.Cond.static ({ cls := "MembranePlantLaw", name := "setHorizon", desc := "(LMembranePlant;I[J)I" } : Jvm.MethodName)) ∈ AW := AW_in 720 (by decide +kernel) rfl
theorem q694 : (Jvm.Cond.codeWith ({ cls := "MembranePlantLaw", name := "setHorizon", desc := "(LMembranePlant;I[J)I" } : Jvm.MethodName) method_20_code (4 : Nat) (Option.some Jvm.ClassFile.FieldType.int) [((0 : Nat), (9 : Nat), (12 : Nat), (13 : Nat))]) ∈ AW := AW_in 721 (by decide +kernel) rfl
theorem q695 : (Jvm.Cond.methodLink "MembranePlantLaw" (72 : Nat) ({ cls := "MembranePlant", name := "setHorizon", desc := "(I)I" } : Jvm.MethodName)) ∈ AW := AW_in 722 (by decide +kernel) rfl
theorem q696 : (Jvm.Cond.instanceMethod ({ cls := "MembranePlant", name := "setHorizon", desc := "(I)I" } : Jvm.MethodName)) ∈ AW := AW_in 723 (by decide +kernel) rfl
theorem q697 : (Jvm.Cond.selects "MembranePlant" ({ cls := "MembranePlant", name := "setHorizon", desc := "(I)I" } : Jvm.MethodName) ({ cls := "MembranePlant", name := "setHorizon", desc := "(I)I" } : Jvm.MethodName)) ∈ AW := AW_in 724 (by decide +kernel) rfl
theorem q698 : (Jvm.Cond.code ({ cls := "MembranePlant", name := "setHorizon", desc := "(I)I" } : Jvm.MethodName) prog_1_method_21_code (3 : Nat) (Option.some Jvm.ClassFile.FieldType.int)) ∈ AW := AW_in 725 (by decide +kernel) rfl
theorem q699 : (Jvm.Cond.methodLink "MembranePlantLaw" (185 : Nat) ({ cls := "MembranePlantLaw", name := "order", desc := "(LMembranePlant;IZ[J)I" } : Jvm.MethodName)) ∈ AW := AW_in 726 (by decide +kernel) rfl
theorem q700 : (Jvm.Cond.static ({ cls := "MembranePlantLaw", name := "order", desc := "(LMembranePlant;IZ[J)I" } : Jvm.MethodName)) ∈ AW := AW_in 727 (by decide +kernel) rfl
theorem q701 : (Jvm.Cond.codeWith ({ cls := "MembranePlantLaw", name := "order", desc := "(LMembranePlant;IZ[J)I" } : Jvm.MethodName) method_21_code (5 : Nat) (Option.some Jvm.ClassFile.FieldType.int) [((0 : Nat), (10 : Nat), (13 : Nat), (13 : Nat)), ((0 : Nat), (10 : Nat), (17 : Nat), (15 : Nat))]) ∈ AW := AW_in 728 (by decide +kernel) rfl
theorem q702 : (Jvm.Cond.methodLink "MembranePlantLaw" (75 : Nat) ({ cls := "MembranePlant", name := "order", desc := "(IZ)I" } : Jvm.MethodName)) ∈ AW := AW_in 729 (by decide +kernel) rfl
theorem q703 : (Jvm.Cond.instanceMethod ({ cls := "MembranePlant", name := "order", desc := "(IZ)I" } : Jvm.MethodName)) ∈ AW := AW_in 730 (by decide +kernel) rfl
theorem q704 : (Jvm.Cond.selects "MembranePlant" ({ cls := "MembranePlant", name := "order", desc := "(IZ)I" } : Jvm.MethodName) ({ cls := "MembranePlant", name := "order", desc := "(IZ)I" } : Jvm.MethodName)) ∈ AW := AW_in 731 (by decide +kernel) rfl
theorem q705 : (Jvm.Cond.code ({ cls := "MembranePlant", name := "order", desc := "(IZ)I" } : Jvm.MethodName) prog_1_method_22_code (3 : Nat) (Option.some Jvm.ClassFile.FieldType.int)) ∈ AW := AW_in 732 (by decide +kernel) rfl
theorem q708 : (Jvm.Cond.methodLink "MembranePlant" (182 : Nat) ({ cls := "MembranePlant$Orders", name := "put", desc := "(II)V" } : Jvm.MethodName)) ∈ AW := AW_in 735 (by decide +kernel) rfl
theorem q709 : (Jvm.Cond.instanceMethod ({ cls := "MembranePlant$Orders", name := "put", desc := "(II)V" } : Jvm.MethodName)) ∈ AW := AW_in 736 (by decide +kernel) rfl
theorem q710 : (Jvm.Cond.selects "MembranePlant$Orders" ({ cls := "MembranePlant$Orders", name := "put", desc := "(II)V" } : Jvm.MethodName) ({ cls := "MembranePlant$Orders", name := "put", desc := "(II)V" } : Jvm.MethodName)) ∈ AW := AW_in 737 (by decide +kernel) rfl
theorem q711 : (Jvm.Cond.code ({ cls := "MembranePlant$Orders", name := "put", desc := "(II)V" } : Jvm.MethodName) prog_3_method_3_code (4 : Nat) (Option.none : Option Jvm.ClassFile.FieldType)) ∈ AW := AW_in 738 (by decide +kernel) rfl
theorem q712 : (Jvm.Cond.methodLink "MembranePlantLaw" (189 : Nat) ({ cls := "MembranePlantLaw", name := "takeBack", desc := "(LMembranePlant;I[J)I" } : Jvm.MethodName)) ∈ AW := AW_in 739 (by decide +kernel) rfl
theorem q713 : (Jvm.Cond.static ({ cls := "MembranePlantLaw", name := "takeBack", desc := "(LMembranePlant;I[J)I" } : Jvm.MethodName)) ∈ AW := AW_in 740 (by decide +kernel) rfl
theorem q714 : (Jvm.Cond.codeWith ({ cls := "MembranePlantLaw", name := "takeBack", desc := "(LMembranePlant;I[J)I" } : Jvm.MethodName) method_22_code (4 : Nat) (Option.some Jvm.ClassFile.FieldType.int) [((0 : Nat), (16 : Nat), (19 : Nat), (83 : Nat))]) ∈ AW := AW_in 741 (by decide +kernel) rfl
theorem q715 : (Jvm.Cond.classLink "MembranePlantLaw" (83 : Nat) "java/util/NoSuchElementException") ∈ AW := AW_in 742 (by decide +kernel) rfl
theorem q716 : (Jvm.Cond.methodLink "MembranePlantLaw" (79 : Nat) ({ cls := "MembranePlant", name := "takeBack", desc := "(I)Z" } : Jvm.MethodName)) ∈ AW := AW_in 743 (by decide +kernel) rfl
theorem q717 : (Jvm.Cond.instanceMethod ({ cls := "MembranePlant", name := "takeBack", desc := "(I)Z" } : Jvm.MethodName)) ∈ AW := AW_in 744 (by decide +kernel) rfl
theorem q718 : (Jvm.Cond.selects "MembranePlant" ({ cls := "MembranePlant", name := "takeBack", desc := "(I)Z" } : Jvm.MethodName) ({ cls := "MembranePlant", name := "takeBack", desc := "(I)Z" } : Jvm.MethodName)) ∈ AW := AW_in 745 (by decide +kernel) rfl
theorem q719 : (Jvm.Cond.code ({ cls := "MembranePlant", name := "takeBack", desc := "(I)Z" } : Jvm.MethodName) prog_1_method_23_code (3 : Nat) (Option.some Jvm.ClassFile.FieldType.boolean)) ∈ AW := AW_in 746 (by decide +kernel) rfl
theorem q720 : (Jvm.Cond.classLink "MembranePlant" (185 : Nat) "java/util/NoSuchElementException") ∈ AW := AW_in 747 (by decide +kernel) rfl
theorem q721 : (Jvm.Cond.instantiable "java/util/NoSuchElementException" (6 : Nat)) ∈ AW := AW_in 748 (by decide +kernel) rfl
theorem q723 : (Jvm.Cond.selects "java/util/NoSuchElementException" ({ cls := "java/lang/Throwable", name := "fillInStackTrace", desc := "(I)Ljava/lang/Throwable;" } : Jvm.MethodName) ({ cls := "java/lang/Throwable", name := "fillInStackTrace", desc := "(I)Ljava/lang/Throwable;" } : Jvm.MethodName)) ∈ AW := AW_in 750 (by decide +kernel) rfl
theorem q730 : (Jvm.Cond.methodLink "MembranePlant" (189 : Nat) ({ cls := "java/util/NoSuchElementException", name := "<init>", desc := "(Ljava/lang/String;)V" } : Jvm.MethodName)) ∈ AW := AW_in 757 (by decide +kernel) rfl
theorem q731 : (Jvm.Cond.instanceMethod ({ cls := "java/util/NoSuchElementException", name := "<init>", desc := "(Ljava/lang/String;)V" } : Jvm.MethodName)) ∈ AW := AW_in 758 (by decide +kernel) rfl
theorem q732 : (Jvm.Cond.code ({ cls := "java/util/NoSuchElementException", name := "<init>", desc := "(Ljava/lang/String;)V" } : Jvm.MethodName) prog_23_method_4_code (2 : Nat) (Option.none : Option Jvm.ClassFile.FieldType)) ∈ AW := AW_in 759 (by decide +kernel) rfl
theorem q733 : (Jvm.Cond.methodLink "java/util/NoSuchElementException" (13 : Nat) ({ cls := "java/lang/RuntimeException", name := "<init>", desc := "(Ljava/lang/String;)V" } : Jvm.MethodName)) ∈ AW := AW_in 760 (by decide +kernel) rfl
theorem q736 : (Jvm.Cond.methodLink "MembranePlantLaw" (196 : Nat) ({ cls := "MembranePlantLaw", name := "bestCost", desc := "(LMembranePlant;I[J)I" } : Jvm.MethodName)) ∈ AW := AW_in 763 (by decide +kernel) rfl
theorem q737 : (Jvm.Cond.static ({ cls := "MembranePlantLaw", name := "bestCost", desc := "(LMembranePlant;I[J)I" } : Jvm.MethodName)) ∈ AW := AW_in 764 (by decide +kernel) rfl
theorem q738 : (Jvm.Cond.codeWith ({ cls := "MembranePlantLaw", name := "bestCost", desc := "(LMembranePlant;I[J)I" } : Jvm.MethodName) method_23_code (4 : Nat) (Option.some Jvm.ClassFile.FieldType.int) [((0 : Nat), (9 : Nat), (12 : Nat), (13 : Nat)), ((0 : Nat), (9 : Nat), (15 : Nat), (83 : Nat))]) ∈ AW := AW_in 765 (by decide +kernel) rfl
theorem q739 : (Jvm.Cond.methodLink "MembranePlantLaw" (85 : Nat) ({ cls := "MembranePlant", name := "bestCost", desc := "(I)I" } : Jvm.MethodName)) ∈ AW := AW_in 766 (by decide +kernel) rfl
theorem q740 : (Jvm.Cond.instanceMethod ({ cls := "MembranePlant", name := "bestCost", desc := "(I)I" } : Jvm.MethodName)) ∈ AW := AW_in 767 (by decide +kernel) rfl
theorem q741 : (Jvm.Cond.selects "MembranePlant" ({ cls := "MembranePlant", name := "bestCost", desc := "(I)I" } : Jvm.MethodName) ({ cls := "MembranePlant", name := "bestCost", desc := "(I)I" } : Jvm.MethodName)) ∈ AW := AW_in 768 (by decide +kernel) rfl
theorem q742 : (Jvm.Cond.code ({ cls := "MembranePlant", name := "bestCost", desc := "(I)I" } : Jvm.MethodName) prog_1_method_25_code (2 : Nat) (Option.some Jvm.ClassFile.FieldType.int)) ∈ AW := AW_in 769 (by decide +kernel) rfl
theorem q743 : (Jvm.Cond.methodLink "MembranePlant" (193 : Nat) ({ cls := "MembranePlant", name := "checkAllowed", desc := "(I)V" } : Jvm.MethodName)) ∈ AW := AW_in 770 (by decide +kernel) rfl
theorem q744 : (Jvm.Cond.static ({ cls := "MembranePlant", name := "checkAllowed", desc := "(I)V" } : Jvm.MethodName)) ∈ AW := AW_in 771 (by decide +kernel) rfl
theorem q745 : (Jvm.Cond.code ({ cls := "MembranePlant", name := "checkAllowed", desc := "(I)V" } : Jvm.MethodName) prog_1_method_40_code (1 : Nat) (Option.none : Option Jvm.ClassFile.FieldType)) ∈ AW := AW_in 772 (by decide +kernel) rfl
theorem q747 : (Jvm.Cond.methodLink "MembranePlantLaw" (199 : Nat) ({ cls := "MembranePlantLaw", name := "bestCostByTrying", desc := "(LMembranePlant;I[J)I" } : Jvm.MethodName)) ∈ AW := AW_in 774 (by decide +kernel) rfl
theorem q748 : (Jvm.Cond.static ({ cls := "MembranePlantLaw", name := "bestCostByTrying", desc := "(LMembranePlant;I[J)I" } : Jvm.MethodName)) ∈ AW := AW_in 775 (by decide +kernel) rfl
theorem q749 : (Jvm.Cond.codeWith ({ cls := "MembranePlantLaw", name := "bestCostByTrying", desc := "(LMembranePlant;I[J)I" } : Jvm.MethodName) method_24_code (4 : Nat) (Option.some Jvm.ClassFile.FieldType.int) [((0 : Nat), (9 : Nat), (12 : Nat), (13 : Nat)), ((0 : Nat), (9 : Nat), (15 : Nat), (83 : Nat))]) ∈ AW := AW_in 776 (by decide +kernel) rfl
theorem q750 : (Jvm.Cond.methodLink "MembranePlantLaw" (88 : Nat) ({ cls := "MembranePlant", name := "bestCostByTrying", desc := "(I)I" } : Jvm.MethodName)) ∈ AW := AW_in 777 (by decide +kernel) rfl
theorem q751 : (Jvm.Cond.instanceMethod ({ cls := "MembranePlant", name := "bestCostByTrying", desc := "(I)I" } : Jvm.MethodName)) ∈ AW := AW_in 778 (by decide +kernel) rfl
theorem q752 : (Jvm.Cond.selects "MembranePlant" ({ cls := "MembranePlant", name := "bestCostByTrying", desc := "(I)I" } : Jvm.MethodName) ({ cls := "MembranePlant", name := "bestCostByTrying", desc := "(I)I" } : Jvm.MethodName)) ∈ AW := AW_in 779 (by decide +kernel) rfl
theorem q753 : (Jvm.Cond.code ({ cls := "MembranePlant", name := "bestCostByTrying", desc := "(I)I" } : Jvm.MethodName) prog_1_method_26_code (4 : Nat) (Option.some Jvm.ClassFile.FieldType.int)) ∈ AW := AW_in 780 (by decide +kernel) rfl
theorem q754 : (Jvm.Cond.methodLink "MembranePlant" (196 : Nat) ({ cls := "MembranePlant$Planner", name := "begin", desc := "(LMembranePlant$State;II)V" } : Jvm.MethodName)) ∈ AW := AW_in 781 (by decide +kernel) rfl
theorem q755 : (Jvm.Cond.methodLink "MembranePlant" (199 : Nat) ({ cls := "MembranePlant$Planner", name := "costOf", desc := "(I)I" } : Jvm.MethodName)) ∈ AW := AW_in 782 (by decide +kernel) rfl
theorem q756 : (Jvm.Cond.instanceMethod ({ cls := "MembranePlant$Planner", name := "costOf", desc := "(I)I" } : Jvm.MethodName)) ∈ AW := AW_in 783 (by decide +kernel) rfl
theorem q757 : (Jvm.Cond.selects "MembranePlant$Planner" ({ cls := "MembranePlant$Planner", name := "costOf", desc := "(I)I" } : Jvm.MethodName) ({ cls := "MembranePlant$Planner", name := "costOf", desc := "(I)I" } : Jvm.MethodName)) ∈ AW := AW_in 784 (by decide +kernel) rfl
theorem q758 : (Jvm.Cond.code ({ cls := "MembranePlant$Planner", name := "costOf", desc := "(I)I" } : Jvm.MethodName) prog_4_method_5_code (5 : Nat) (Option.some Jvm.ClassFile.FieldType.int)) ∈ AW := AW_in 785 (by decide +kernel) rfl
theorem q759 : (Jvm.Cond.methodLink "MembranePlant$Planner" (70 : Nat) ({ cls := "MembranePlant$Planner", name := "toldBy", desc := "(II)I" } : Jvm.MethodName)) ∈ AW := AW_in 786 (by decide +kernel) rfl
theorem q760 : (Jvm.Cond.methodLink "MembranePlant" (202 : Nat) ({ cls := "java/lang/Math", name := "min", desc := "(II)I" } : Jvm.MethodName)) ∈ AW := AW_in 787 (by decide +kernel) rfl
theorem q761 : (Jvm.Cond.methodLink "MembranePlantLaw" (202 : Nat) ({ cls := "MembranePlantLaw", name := "isOnInBest", desc := "(LMembranePlant;II[J)I" } : Jvm.MethodName)) ∈ AW := AW_in 788 (by decide +kernel) rfl
theorem q762 : (Jvm.Cond.static ({ cls := "MembranePlantLaw", name := "isOnInBest", desc := "(LMembranePlant;II[J)I" } : Jvm.MethodName)) ∈ AW := AW_in 789 (by decide +kernel) rfl
theorem q763 : (Jvm.Cond.codeWith ({ cls := "MembranePlantLaw", name := "isOnInBest", desc := "(LMembranePlant;II[J)I" } : Jvm.MethodName) method_25_code (5 : Nat) (Option.some Jvm.ClassFile.FieldType.int) [((0 : Nat), (17 : Nat), (20 : Nat), (13 : Nat)), ((0 : Nat), (17 : Nat), (24 : Nat), (21 : Nat)), ((0 : Nat), (17 : Nat), (28 : Nat), (83 : Nat))]) ∈ AW := AW_in 790 (by decide +kernel) rfl
theorem q764 : (Jvm.Cond.methodLink "MembranePlantLaw" (91 : Nat) ({ cls := "MembranePlant", name := "isOnInBest", desc := "(II)Z" } : Jvm.MethodName)) ∈ AW := AW_in 791 (by decide +kernel) rfl
theorem q765 : (Jvm.Cond.instanceMethod ({ cls := "MembranePlant", name := "isOnInBest", desc := "(II)Z" } : Jvm.MethodName)) ∈ AW := AW_in 792 (by decide +kernel) rfl
theorem q766 : (Jvm.Cond.selects "MembranePlant" ({ cls := "MembranePlant", name := "isOnInBest", desc := "(II)Z" } : Jvm.MethodName) ({ cls := "MembranePlant", name := "isOnInBest", desc := "(II)Z" } : Jvm.MethodName)) ∈ AW := AW_in 793 (by decide +kernel) rfl
theorem q767 : (Jvm.Cond.code ({ cls := "MembranePlant", name := "isOnInBest", desc := "(II)Z" } : Jvm.MethodName) prog_1_method_27_code (3 : Nat) (Option.some Jvm.ClassFile.FieldType.boolean)) ∈ AW := AW_in 794 (by decide +kernel) rfl
theorem q769 : (Jvm.Cond.methodLink "MembranePlantLaw" (205 : Nat) ({ cls := "MembranePlantLaw", name := "allowedSchedules", desc := "(LMembranePlant;I[J)I" } : Jvm.MethodName)) ∈ AW := AW_in 796 (by decide +kernel) rfl
theorem q770 : (Jvm.Cond.static ({ cls := "MembranePlantLaw", name := "allowedSchedules", desc := "(LMembranePlant;I[J)I" } : Jvm.MethodName)) ∈ AW := AW_in 797 (by decide +kernel) rfl
theorem q771 : (Jvm.Cond.codeWith ({ cls := "MembranePlantLaw", name := "allowedSchedules", desc := "(LMembranePlant;I[J)I" } : Jvm.MethodName) method_26_code (4 : Nat) (Option.some Jvm.ClassFile.FieldType.int) [((0 : Nat), (9 : Nat), (12 : Nat), (13 : Nat))]) ∈ AW := AW_in 798 (by decide +kernel) rfl
theorem q772 : (Jvm.Cond.methodLink "MembranePlantLaw" (95 : Nat) ({ cls := "MembranePlant", name := "allowedSchedules", desc := "(I)I" } : Jvm.MethodName)) ∈ AW := AW_in 799 (by decide +kernel) rfl
theorem q773 : (Jvm.Cond.instanceMethod ({ cls := "MembranePlant", name := "allowedSchedules", desc := "(I)I" } : Jvm.MethodName)) ∈ AW := AW_in 800 (by decide +kernel) rfl
theorem q774 : (Jvm.Cond.selects "MembranePlant" ({ cls := "MembranePlant", name := "allowedSchedules", desc := "(I)I" } : Jvm.MethodName) ({ cls := "MembranePlant", name := "allowedSchedules", desc := "(I)I" } : Jvm.MethodName)) ∈ AW := AW_in 801 (by decide +kernel) rfl
theorem q775 : (Jvm.Cond.code ({ cls := "MembranePlant", name := "allowedSchedules", desc := "(I)I" } : Jvm.MethodName) prog_1_method_28_code (4 : Nat) (Option.some Jvm.ClassFile.FieldType.int)) ∈ AW := AW_in 802 (by decide +kernel) rfl
theorem q776 : (Jvm.Cond.methodLink "MembranePlantLaw" (238 : Nat) ({ cls := "MembranePlantLaw", name := "servedShare", desc := "(LMembranePlant;[D)I" } : Jvm.MethodName)) ∈ AW := AW_in 803 (by decide +kernel) rfl
theorem q777 : (Jvm.Cond.static ({ cls := "MembranePlantLaw", name := "servedShare", desc := "(LMembranePlant;[D)I" } : Jvm.MethodName)) ∈ AW := AW_in 804 (by decide +kernel) rfl
end
section
theorem q778 : (Jvm.Cond.codeWith ({ cls := "MembranePlantLaw", name := "servedShare", desc := "(LMembranePlant;[D)I" } : Jvm.MethodName) method_27_code (3 : Nat) (Option.some Jvm.ClassFile.FieldType.int) [((0 : Nat), (8 : Nat), (11 : Nat), (102 : Nat))]) ∈ AW := AW_in 805 (by decide +kernel) rfl
theorem q779 : (Jvm.Cond.classLink "MembranePlantLaw" (102 : Nat) "java/lang/ArithmeticException") ∈ AW := AW_in 806 (by decide +kernel) rfl
theorem q780 : (Jvm.Cond.instantiable "java/lang/ArithmeticException" (6 : Nat)) ∈ AW := AW_in 807 (by decide +kernel) rfl
theorem q781 : (Jvm.Cond.instanceMethod ({ cls := "java/lang/ArithmeticException", name := "<init>", desc := "(Ljava/lang/String;)V" } : Jvm.MethodName)) ∈ AW := AW_in 808 (by decide +kernel) rfl
theorem q782 : (Jvm.Cond.code ({ cls := "java/lang/ArithmeticException", name := "<init>", desc := "(Ljava/lang/String;)V" } : Jvm.MethodName) prog_10_method_2_code (2 : Nat) (Option.none : Option Jvm.ClassFile.FieldType)) ∈ AW := AW_in 809 (by decide +kernel) rfl
theorem q783 : (Jvm.Cond.methodLink "java/lang/ArithmeticException" (7 : Nat) ({ cls := "java/lang/RuntimeException", name := "<init>", desc := "(Ljava/lang/String;)V" } : Jvm.MethodName)) ∈ AW := AW_in 810 (by decide +kernel) rfl
theorem q792 : (Jvm.Cond.selects "java/lang/ArithmeticException" ({ cls := "java/lang/Throwable", name := "fillInStackTrace", desc := "(I)Ljava/lang/Throwable;" } : Jvm.MethodName) ({ cls := "java/lang/Throwable", name := "fillInStackTrace", desc := "(I)Ljava/lang/Throwable;" } : Jvm.MethodName)) ∈ AW := AW_in 819 (by decide +kernel) rfl
theorem q793 : (Jvm.Cond.methodLink "MembranePlantLaw" (98 : Nat) ({ cls := "MembranePlant", name := "servedShare", desc := "()F" } : Jvm.MethodName)) ∈ AW := AW_in 820 (by decide +kernel) rfl
theorem q794 : (Jvm.Cond.instanceMethod ({ cls := "MembranePlant", name := "servedShare", desc := "()F" } : Jvm.MethodName)) ∈ AW := AW_in 821 (by decide +kernel) rfl
theorem q795 : (Jvm.Cond.selects "MembranePlant" ({ cls := "MembranePlant", name := "servedShare", desc := "()F" } : Jvm.MethodName) ({ cls := "MembranePlant", name := "servedShare", desc := "()F" } : Jvm.MethodName)) ∈ AW := AW_in 822 (by decide +kernel) rfl
theorem q796 : (Jvm.Cond.code ({ cls := "MembranePlant", name := "servedShare", desc := "()F" } : Jvm.MethodName) prog_1_method_36_code (1 : Nat) (Option.some Jvm.ClassFile.FieldType.float)) ∈ AW := AW_in 823 (by decide +kernel) rfl
theorem q797 : (Jvm.Cond.classLink "MembranePlant" (236 : Nat) "java/lang/ArithmeticException") ∈ AW := AW_in 824 (by decide +kernel) rfl
theorem q799 : (Jvm.Cond.methodLink "MembranePlant" (240 : Nat) ({ cls := "java/lang/ArithmeticException", name := "<init>", desc := "(Ljava/lang/String;)V" } : Jvm.MethodName)) ∈ AW := AW_in 826 (by decide +kernel) rfl
theorem q800 : (Jvm.Cond.methodLink "MembranePlantLaw" (242 : Nat) ({ cls := "MembranePlantLaw", name := "meanCost", desc := "(LMembranePlant;[D)I" } : Jvm.MethodName)) ∈ AW := AW_in 827 (by decide +kernel) rfl
theorem q801 : (Jvm.Cond.static ({ cls := "MembranePlantLaw", name := "meanCost", desc := "(LMembranePlant;[D)I" } : Jvm.MethodName)) ∈ AW := AW_in 828 (by decide +kernel) rfl
theorem q802 : (Jvm.Cond.codeWith ({ cls := "MembranePlantLaw", name := "meanCost", desc := "(LMembranePlant;[D)I" } : Jvm.MethodName) method_28_code (3 : Nat) (Option.some Jvm.ClassFile.FieldType.int) [((0 : Nat), (7 : Nat), (10 : Nat), (102 : Nat))]) ∈ AW := AW_in 829 (by decide +kernel) rfl
theorem q803 : (Jvm.Cond.methodLink "MembranePlantLaw" (104 : Nat) ({ cls := "MembranePlant", name := "meanCost", desc := "()D" } : Jvm.MethodName)) ∈ AW := AW_in 830 (by decide +kernel) rfl
theorem q804 : (Jvm.Cond.instanceMethod ({ cls := "MembranePlant", name := "meanCost", desc := "()D" } : Jvm.MethodName)) ∈ AW := AW_in 831 (by decide +kernel) rfl
theorem q805 : (Jvm.Cond.selects "MembranePlant" ({ cls := "MembranePlant", name := "meanCost", desc := "()D" } : Jvm.MethodName) ({ cls := "MembranePlant", name := "meanCost", desc := "()D" } : Jvm.MethodName)) ∈ AW := AW_in 832 (by decide +kernel) rfl
theorem q806 : (Jvm.Cond.code ({ cls := "MembranePlant", name := "meanCost", desc := "()D" } : Jvm.MethodName) prog_1_method_37_code (1 : Nat) (Option.some Jvm.ClassFile.FieldType.double)) ∈ AW := AW_in 833 (by decide +kernel) rfl
theorem q808 : (Jvm.Cond.classLink "MembranePlantLaw" (109 : Nat) "MembranePlantModel") ∈ AW := AW_in 835 (by decide +kernel) rfl
theorem q809 : (Jvm.Cond.instantiable "MembranePlantModel" (34 : Nat)) ∈ AW := AW_in 836 (by decide +kernel) rfl
theorem q810 : (Jvm.Cond.methodLink "MembranePlantLaw" (111 : Nat) ({ cls := "MembranePlantModel", name := "<init>", desc := "()V" } : Jvm.MethodName)) ∈ AW := AW_in 837 (by decide +kernel) rfl
theorem q811 : (Jvm.Cond.instanceMethod ({ cls := "MembranePlantModel", name := "<init>", desc := "()V" } : Jvm.MethodName)) ∈ AW := AW_in 838 (by decide +kernel) rfl
theorem q812 : (Jvm.Cond.code ({ cls := "MembranePlantModel", name := "<init>", desc := "()V" } : Jvm.MethodName) prog_8_method_1_code (1 : Nat) (Option.none : Option Jvm.ClassFile.FieldType)) ∈ AW := AW_in 839 (by decide +kernel) rfl
theorem q813 : (Jvm.Cond.methodLink "MembranePlantModel" (3 : Nat) ({ cls := "java/lang/Object", name := "<init>", desc := "()V" } : Jvm.MethodName)) ∈ AW := AW_in 840 (by decide +kernel) rfl
theorem q814 : (Jvm.Cond.fieldLink "MembranePlantModel" (9 : Nat) "MembranePlantModel" "now" "[I") ∈ AW := AW_in 841 (by decide +kernel) rfl
theorem q815 : (Jvm.Cond.fieldLink "MembranePlantModel" (13 : Nat) "MembranePlantModel" "laidBy" "[I") ∈ AW := AW_in 842 (by decide +kernel) rfl
theorem q816 : (Jvm.Cond.fieldLink "MembranePlantModel" (16 : Nat) "MembranePlantModel" "areas" "[I") ∈ AW := AW_in 843 (by decide +kernel) rfl
theorem q817 : (Jvm.Cond.fieldLink "MembranePlantModel" (19 : Nat) "MembranePlantModel" "pressures" "[I") ∈ AW := AW_in 844 (by decide +kernel) rfl
theorem q818 : (Jvm.Cond.fieldLink "MembranePlantModel" (57 : Nat) "MembranePlantModel" "trains" "I") ∈ AW := AW_in 845 (by decide +kernel) rfl
theorem q819 : (Jvm.Cond.fieldLink "MembranePlantModel" (22 : Nat) "MembranePlantModel" "capacities" "[I") ∈ AW := AW_in 846 (by decide +kernel) rfl
theorem q820 : (Jvm.Cond.fieldLink "MembranePlantModel" (25 : Nat) "MembranePlantModel" "demands" "[I") ∈ AW := AW_in 847 (by decide +kernel) rfl
theorem q821 : (Jvm.Cond.fieldLink "MembranePlantModel" (28 : Nat) "MembranePlantModel" "shorts" "[I") ∈ AW := AW_in 848 (by decide +kernel) rfl
theorem q822 : (Jvm.Cond.fieldLink "MembranePlantModel" (64 : Nat) "MembranePlantModel" "tanks" "I") ∈ AW := AW_in 849 (by decide +kernel) rfl
theorem q823 : (Jvm.Cond.fieldLink "MembranePlantModel" (31 : Nat) "MembranePlantModel" "prices" "[I") ∈ AW := AW_in 850 (by decide +kernel) rfl
theorem q824 : (Jvm.Cond.fieldLink "MembranePlantModel" (34 : Nat) "MembranePlantModel" "salinity" "I") ∈ AW := AW_in 851 (by decide +kernel) rfl
theorem q825 : (Jvm.Cond.fieldLink "MembranePlantModel" (38 : Nat) "MembranePlantModel" "recovery" "I") ∈ AW := AW_in 852 (by decide +kernel) rfl
theorem q826 : (Jvm.Cond.fieldLink "MembranePlantModel" (139 : Nat) "MembranePlantModel" "halfHour" "I") ∈ AW := AW_in 853 (by decide +kernel) rfl
theorem q827 : (Jvm.Cond.fieldLink "MembranePlantModel" (41 : Nat) "MembranePlantModel" "horizon" "I") ∈ AW := AW_in 854 (by decide +kernel) rfl
theorem q828 : (Jvm.Cond.fieldLink "MembranePlantModel" (44 : Nat) "MembranePlantModel" "ordered" "[I") ∈ AW := AW_in 855 (by decide +kernel) rfl
theorem q829 : (Jvm.Cond.fieldLink "MembranePlantModel" (47 : Nat) "MembranePlantModel" "orderedOn" "[Z") ∈ AW := AW_in 856 (by decide +kernel) rfl
theorem q830 : (Jvm.Cond.fieldLink "MembranePlantModel" (136 : Nat) "MembranePlantModel" "orders" "I") ∈ AW := AW_in 857 (by decide +kernel) rfl
theorem q831 : (Jvm.Cond.fieldLink "MembranePlantModel" (114 : Nat) "MembranePlantModel" "gaveProduct" "I") ∈ AW := AW_in 858 (by decide +kernel) rfl
theorem q832 : (Jvm.Cond.fieldLink "MembranePlantModel" (117 : Nat) "MembranePlantModel" "gaveFeed" "I") ∈ AW := AW_in 859 (by decide +kernel) rfl
theorem q833 : (Jvm.Cond.fieldLink "MembranePlantModel" (120 : Nat) "MembranePlantModel" "gaveEnergy" "I") ∈ AW := AW_in 860 (by decide +kernel) rfl
theorem q834 : (Jvm.Cond.fieldLink "MembranePlantModel" (133 : Nat) "MembranePlantModel" "gaveSpilled" "I") ∈ AW := AW_in 861 (by decide +kernel) rfl
theorem q835 : (Jvm.Cond.fieldLink "MembranePlantModel" (123 : Nat) "MembranePlantModel" "gaveServed" "I") ∈ AW := AW_in 862 (by decide +kernel) rfl
theorem q836 : (Jvm.Cond.fieldLink "MembranePlantModel" (51 : Nat) "MembranePlantModel" "gaveShort" "[I") ∈ AW := AW_in 863 (by decide +kernel) rfl
theorem q837 : (Jvm.Cond.fieldLink "MembranePlantModel" (150 : Nat) "MembranePlantModel" "feed" "J") ∈ AW := AW_in 864 (by decide +kernel) rfl
theorem q838 : (Jvm.Cond.fieldLink "MembranePlantModel" (146 : Nat) "MembranePlantModel" "product" "J") ∈ AW := AW_in 865 (by decide +kernel) rfl
theorem q839 : (Jvm.Cond.fieldLink "MembranePlantModel" (153 : Nat) "MembranePlantModel" "spilled" "J") ∈ AW := AW_in 866 (by decide +kernel) rfl
theorem q840 : (Jvm.Cond.fieldLink "MembranePlantModel" (156 : Nat) "MembranePlantModel" "served" "J") ∈ AW := AW_in 867 (by decide +kernel) rfl
theorem q841 : (Jvm.Cond.fieldLink "MembranePlantModel" (162 : Nat) "MembranePlantModel" "demanded" "J") ∈ AW := AW_in 868 (by decide +kernel) rfl
theorem q842 : (Jvm.Cond.fieldLink "MembranePlantModel" (159 : Nat) "MembranePlantModel" "cost" "J") ∈ AW := AW_in 869 (by decide +kernel) rfl
theorem q843 : (Jvm.Cond.fieldLink "MembranePlantModel" (183 : Nat) "MembranePlantModel" "best" "I") ∈ AW := AW_in 870 (by decide +kernel) rfl
theorem q844 : (Jvm.Cond.fieldLink "MembranePlantModel" (199 : Nat) "MembranePlantModel" "bestCost" "I") ∈ AW := AW_in 871 (by decide +kernel) rfl
theorem q845 : (Jvm.Cond.fieldLink "MembranePlantModel" (180 : Nat) "MembranePlantModel" "allowed" "I") ∈ AW := AW_in 872 (by decide +kernel) rfl
theorem q846 : (Jvm.Cond.fieldLink "MembranePlantModel" (54 : Nat) "MembranePlantModel" "thrown" "I") ∈ AW := AW_in 873 (by decide +kernel) rfl
theorem q847 : (Jvm.Cond.fieldLink "MembranePlantModel" (188 : Nat) "MembranePlantModel" "tried" "I") ∈ AW := AW_in 874 (by decide +kernel) rfl
theorem q917 : (Jvm.Cond.arrayClass Jvm.ClassFile.FieldType.boolean) ∈ AW := AW_in 944 (by decide +kernel) rfl
theorem q918 : (Jvm.Cond.methodLink "MembranePlantLaw" (118 : Nat) ({ cls := "MembranePlantModel", name := "thrown", desc := "()I" } : Jvm.MethodName)) ∈ AW := AW_in 945 (by decide +kernel) rfl
theorem q919 : (Jvm.Cond.instanceMethod ({ cls := "MembranePlantModel", name := "thrown", desc := "()I" } : Jvm.MethodName)) ∈ AW := AW_in 946 (by decide +kernel) rfl
theorem q920 : (Jvm.Cond.selects "MembranePlantModel" ({ cls := "MembranePlantModel", name := "thrown", desc := "()I" } : Jvm.MethodName) ({ cls := "MembranePlantModel", name := "thrown", desc := "()I" } : Jvm.MethodName)) ∈ AW := AW_in 947 (by decide +kernel) rfl
theorem q921 : (Jvm.Cond.code ({ cls := "MembranePlantModel", name := "thrown", desc := "()I" } : Jvm.MethodName) prog_8_method_2_code (1 : Nat) (Option.some Jvm.ClassFile.FieldType.int)) ∈ AW := AW_in 948 (by decide +kernel) rfl
theorem q922 : (Jvm.Cond.methodLink "MembranePlantLaw" (117 : Nat) ({ cls := "MembranePlantModel", name := "addTrain", desc := "(I)I" } : Jvm.MethodName)) ∈ AW := AW_in 949 (by decide +kernel) rfl
theorem q923 : (Jvm.Cond.instanceMethod ({ cls := "MembranePlantModel", name := "addTrain", desc := "(I)I" } : Jvm.MethodName)) ∈ AW := AW_in 950 (by decide +kernel) rfl
theorem q924 : (Jvm.Cond.selects "MembranePlantModel" ({ cls := "MembranePlantModel", name := "addTrain", desc := "(I)I" } : Jvm.MethodName) ({ cls := "MembranePlantModel", name := "addTrain", desc := "(I)I" } : Jvm.MethodName)) ∈ AW := AW_in 951 (by decide +kernel) rfl
theorem q925 : (Jvm.Cond.code ({ cls := "MembranePlantModel", name := "addTrain", desc := "(I)I" } : Jvm.MethodName) prog_8_method_7_code (2 : Nat) (Option.some Jvm.ClassFile.FieldType.int)) ∈ AW := AW_in 952 (by decide +kernel) rfl
theorem q926 : (Jvm.Cond.constantLong "MembranePlantModel" (67 : Nat) (20 : Int64)) ∈ AW := AW_in 953 (by decide +kernel) rfl
theorem q927 : (Jvm.Cond.methodLink "MembranePlantModel" (60 : Nat) ({ cls := "MembranePlantModel", name := "in", desc := "(JJJ)Z" } : Jvm.MethodName)) ∈ AW := AW_in 954 (by decide +kernel) rfl
theorem q928 : (Jvm.Cond.static ({ cls := "MembranePlantModel", name := "in", desc := "(JJJ)Z" } : Jvm.MethodName)) ∈ AW := AW_in 955 (by decide +kernel) rfl
theorem q929 : (Jvm.Cond.code ({ cls := "MembranePlantModel", name := "in", desc := "(JJJ)Z" } : Jvm.MethodName) prog_8_method_3_code (6 : Nat) (Option.some Jvm.ClassFile.FieldType.boolean)) ∈ AW := AW_in 956 (by decide +kernel) rfl
theorem q930 : (Jvm.Cond.methodLink "MembranePlantLaw" (125 : Nat) ({ cls := "MembranePlantModel", name := "setPressure", desc := "(II)I" } : Jvm.MethodName)) ∈ AW := AW_in 957 (by decide +kernel) rfl
theorem q931 : (Jvm.Cond.instanceMethod ({ cls := "MembranePlantModel", name := "setPressure", desc := "(II)I" } : Jvm.MethodName)) ∈ AW := AW_in 958 (by decide +kernel) rfl
theorem q932 : (Jvm.Cond.selects "MembranePlantModel" ({ cls := "MembranePlantModel", name := "setPressure", desc := "(II)I" } : Jvm.MethodName) ({ cls := "MembranePlantModel", name := "setPressure", desc := "(II)I" } : Jvm.MethodName)) ∈ AW := AW_in 959 (by decide +kernel) rfl
theorem q933 : (Jvm.Cond.code ({ cls := "MembranePlantModel", name := "setPressure", desc := "(II)I" } : Jvm.MethodName) prog_8_method_8_code (4 : Nat) (Option.some Jvm.ClassFile.FieldType.int)) ∈ AW := AW_in 960 (by decide +kernel) rfl
theorem q934 : (Jvm.Cond.methodLink "MembranePlantModel" (69 : Nat) ({ cls := "MembranePlantModel", name := "isTrain", desc := "(I)Z" } : Jvm.MethodName)) ∈ AW := AW_in 961 (by decide +kernel) rfl
theorem q936 : (Jvm.Cond.instanceMethod ({ cls := "MembranePlantModel", name := "isTrain", desc := "(I)Z" } : Jvm.MethodName)) ∈ AW := AW_in 963 (by decide +kernel) rfl
theorem q937 : (Jvm.Cond.code ({ cls := "MembranePlantModel", name := "isTrain", desc := "(I)Z" } : Jvm.MethodName) prog_8_method_4_code (2 : Nat) (Option.some Jvm.ClassFile.FieldType.boolean)) ∈ AW := AW_in 964 (by decide +kernel) rfl
theorem q938 : (Jvm.Cond.constantLong "MembranePlantModel" (73 : Nat) (30 : Int64)) ∈ AW := AW_in 965 (by decide +kernel) rfl
theorem q939 : (Jvm.Cond.constantLong "MembranePlantModel" (75 : Nat) (70 : Int64)) ∈ AW := AW_in 966 (by decide +kernel) rfl
theorem q940 : (Jvm.Cond.methodLink "MembranePlantLaw" (128 : Nat) ({ cls := "MembranePlantModel", name := "setSalinity", desc := "(I)I" } : Jvm.MethodName)) ∈ AW := AW_in 967 (by decide +kernel) rfl
theorem q941 : (Jvm.Cond.instanceMethod ({ cls := "MembranePlantModel", name := "setSalinity", desc := "(I)I" } : Jvm.MethodName)) ∈ AW := AW_in 968 (by decide +kernel) rfl
theorem q942 : (Jvm.Cond.selects "MembranePlantModel" ({ cls := "MembranePlantModel", name := "setSalinity", desc := "(I)I" } : Jvm.MethodName) ({ cls := "MembranePlantModel", name := "setSalinity", desc := "(I)I" } : Jvm.MethodName)) ∈ AW := AW_in 969 (by decide +kernel) rfl
theorem q943 : (Jvm.Cond.code ({ cls := "MembranePlantModel", name := "setSalinity", desc := "(I)I" } : Jvm.MethodName) prog_8_method_9_code (3 : Nat) (Option.some Jvm.ClassFile.FieldType.int)) ∈ AW := AW_in 970 (by decide +kernel) rfl
theorem q944 : (Jvm.Cond.constantLong "MembranePlantModel" (77 : Nat) (35 : Int64)) ∈ AW := AW_in 971 (by decide +kernel) rfl
theorem q945 : (Jvm.Cond.methodLink "MembranePlantLaw" (131 : Nat) ({ cls := "MembranePlantModel", name := "setRecovery", desc := "(I)I" } : Jvm.MethodName)) ∈ AW := AW_in 972 (by decide +kernel) rfl
theorem q946 : (Jvm.Cond.instanceMethod ({ cls := "MembranePlantModel", name := "setRecovery", desc := "(I)I" } : Jvm.MethodName)) ∈ AW := AW_in 973 (by decide +kernel) rfl
theorem q947 : (Jvm.Cond.selects "MembranePlantModel" ({ cls := "MembranePlantModel", name := "setRecovery", desc := "(I)I" } : Jvm.MethodName) ({ cls := "MembranePlantModel", name := "setRecovery", desc := "(I)I" } : Jvm.MethodName)) ∈ AW := AW_in 974 (by decide +kernel) rfl
theorem q948 : (Jvm.Cond.code ({ cls := "MembranePlantModel", name := "setRecovery", desc := "(I)I" } : Jvm.MethodName) prog_8_method_10_code (3 : Nat) (Option.some Jvm.ClassFile.FieldType.int)) ∈ AW := AW_in 975 (by decide +kernel) rfl
theorem q949 : (Jvm.Cond.constantLong "MembranePlantModel" (79 : Nat) (60 : Int64)) ∈ AW := AW_in 976 (by decide +kernel) rfl
theorem q950 : (Jvm.Cond.methodLink "MembranePlantLaw" (134 : Nat) ({ cls := "MembranePlantModel", name := "clean", desc := "(I)I" } : Jvm.MethodName)) ∈ AW := AW_in 977 (by decide +kernel) rfl
theorem q951 : (Jvm.Cond.instanceMethod ({ cls := "MembranePlantModel", name := "clean", desc := "(I)I" } : Jvm.MethodName)) ∈ AW := AW_in 978 (by decide +kernel) rfl
theorem q952 : (Jvm.Cond.selects "MembranePlantModel" ({ cls := "MembranePlantModel", name := "clean", desc := "(I)I" } : Jvm.MethodName) ({ cls := "MembranePlantModel", name := "clean", desc := "(I)I" } : Jvm.MethodName)) ∈ AW := AW_in 979 (by decide +kernel) rfl
theorem q953 : (Jvm.Cond.code ({ cls := "MembranePlantModel", name := "clean", desc := "(I)I" } : Jvm.MethodName) prog_8_method_11_code (2 : Nat) (Option.some Jvm.ClassFile.FieldType.int)) ∈ AW := AW_in 980 (by decide +kernel) rfl
theorem q954 : (Jvm.Cond.methodLink "MembranePlantModel" (81 : Nat) ({ cls := "MembranePlantModel", name := "of", desc := "(II)I" } : Jvm.MethodName)) ∈ AW := AW_in 981 (by decide +kernel) rfl
theorem q956 : (Jvm.Cond.instanceMethod ({ cls := "MembranePlantModel", name := "of", desc := "(II)I" } : Jvm.MethodName)) ∈ AW := AW_in 983 (by decide +kernel) rfl
theorem q957 : (Jvm.Cond.code ({ cls := "MembranePlantModel", name := "of", desc := "(II)I" } : Jvm.MethodName) prog_8_method_6_code (3 : Nat) (Option.some Jvm.ClassFile.FieldType.int)) ∈ AW := AW_in 984 (by decide +kernel) rfl
theorem q958 : (Jvm.Cond.methodLink "MembranePlantLaw" (137 : Nat) ({ cls := "MembranePlantModel", name := "fouling", desc := "(I)I" } : Jvm.MethodName)) ∈ AW := AW_in 985 (by decide +kernel) rfl
theorem q959 : (Jvm.Cond.instanceMethod ({ cls := "MembranePlantModel", name := "fouling", desc := "(I)I" } : Jvm.MethodName)) ∈ AW := AW_in 986 (by decide +kernel) rfl
theorem q960 : (Jvm.Cond.selects "MembranePlantModel" ({ cls := "MembranePlantModel", name := "fouling", desc := "(I)I" } : Jvm.MethodName) ({ cls := "MembranePlantModel", name := "fouling", desc := "(I)I" } : Jvm.MethodName)) ∈ AW := AW_in 987 (by decide +kernel) rfl
theorem q961 : (Jvm.Cond.code ({ cls := "MembranePlantModel", name := "fouling", desc := "(I)I" } : Jvm.MethodName) prog_8_method_12_code (2 : Nat) (Option.some Jvm.ClassFile.FieldType.int)) ∈ AW := AW_in 988 (by decide +kernel) rfl
theorem q962 : (Jvm.Cond.methodLink "MembranePlantLaw" (140 : Nat) ({ cls := "MembranePlantModel", name := "wear", desc := "(I)I" } : Jvm.MethodName)) ∈ AW := AW_in 989 (by decide +kernel) rfl
theorem q963 : (Jvm.Cond.instanceMethod ({ cls := "MembranePlantModel", name := "wear", desc := "(I)I" } : Jvm.MethodName)) ∈ AW := AW_in 990 (by decide +kernel) rfl
theorem q964 : (Jvm.Cond.selects "MembranePlantModel" ({ cls := "MembranePlantModel", name := "wear", desc := "(I)I" } : Jvm.MethodName) ({ cls := "MembranePlantModel", name := "wear", desc := "(I)I" } : Jvm.MethodName)) ∈ AW := AW_in 991 (by decide +kernel) rfl
theorem q965 : (Jvm.Cond.code ({ cls := "MembranePlantModel", name := "wear", desc := "(I)I" } : Jvm.MethodName) prog_8_method_13_code (2 : Nat) (Option.some Jvm.ClassFile.FieldType.int)) ∈ AW := AW_in 992 (by decide +kernel) rfl
theorem q966 : (Jvm.Cond.methodLink "MembranePlantLaw" (143 : Nat) ({ cls := "MembranePlantModel", name := "cleaningLeft", desc := "(I)I" } : Jvm.MethodName)) ∈ AW := AW_in 993 (by decide +kernel) rfl
theorem q967 : (Jvm.Cond.instanceMethod ({ cls := "MembranePlantModel", name := "cleaningLeft", desc := "(I)I" } : Jvm.MethodName)) ∈ AW := AW_in 994 (by decide +kernel) rfl
theorem q968 : (Jvm.Cond.selects "MembranePlantModel" ({ cls := "MembranePlantModel", name := "cleaningLeft", desc := "(I)I" } : Jvm.MethodName) ({ cls := "MembranePlantModel", name := "cleaningLeft", desc := "(I)I" } : Jvm.MethodName)) ∈ AW := AW_in 995 (by decide +kernel) rfl
theorem q969 : (Jvm.Cond.code ({ cls := "MembranePlantModel", name := "cleaningLeft", desc := "(I)I" } : Jvm.MethodName) prog_8_method_14_code (2 : Nat) (Option.some Jvm.ClassFile.FieldType.int)) ∈ AW := AW_in 996 (by decide +kernel) rfl
theorem q970 : (Jvm.Cond.methodLink "MembranePlantLaw" (146 : Nat) ({ cls := "MembranePlantModel", name := "productOf", desc := "(I)I" } : Jvm.MethodName)) ∈ AW := AW_in 997 (by decide +kernel) rfl
theorem q971 : (Jvm.Cond.instanceMethod ({ cls := "MembranePlantModel", name := "productOf", desc := "(I)I" } : Jvm.MethodName)) ∈ AW := AW_in 998 (by decide +kernel) rfl
theorem q972 : (Jvm.Cond.selects "MembranePlantModel" ({ cls := "MembranePlantModel", name := "productOf", desc := "(I)I" } : Jvm.MethodName) ({ cls := "MembranePlantModel", name := "productOf", desc := "(I)I" } : Jvm.MethodName)) ∈ AW := AW_in 999 (by decide +kernel) rfl
theorem q973 : (Jvm.Cond.code ({ cls := "MembranePlantModel", name := "productOf", desc := "(I)I" } : Jvm.MethodName) prog_8_method_18_code (2 : Nat) (Option.some Jvm.ClassFile.FieldType.int)) ∈ AW := AW_in 1000 (by decide +kernel) rfl
theorem q974 : (Jvm.Cond.methodLink "MembranePlantModel" (90 : Nat) ({ cls := "MembranePlantModel", name := "gives", desc := "(I)I" } : Jvm.MethodName)) ∈ AW := AW_in 1001 (by decide +kernel) rfl
theorem q976 : (Jvm.Cond.instanceMethod ({ cls := "MembranePlantModel", name := "gives", desc := "(I)I" } : Jvm.MethodName)) ∈ AW := AW_in 1003 (by decide +kernel) rfl
theorem q977 : (Jvm.Cond.code ({ cls := "MembranePlantModel", name := "gives", desc := "(I)I" } : Jvm.MethodName) prog_8_method_15_code (2 : Nat) (Option.some Jvm.ClassFile.FieldType.int)) ∈ AW := AW_in 1004 (by decide +kernel) rfl
theorem q978 : (Jvm.Cond.methodLink "MembranePlantModel" (85 : Nat) ({ cls := "java/lang/Math", name := "max", desc := "(II)I" } : Jvm.MethodName)) ∈ AW := AW_in 1005 (by decide +kernel) rfl
theorem q979 : (Jvm.Cond.static ({ cls := "java/lang/Math", name := "max", desc := "(II)I" } : Jvm.MethodName)) ∈ AW := AW_in 1006 (by decide +kernel) rfl
theorem q980 : (Jvm.Cond.code ({ cls := "java/lang/Math", name := "max", desc := "(II)I" } : Jvm.MethodName) prog_16_method_65_code (2 : Nat) (Option.some Jvm.ClassFile.FieldType.int)) ∈ AW := AW_in 1007 (by decide +kernel) rfl
theorem q981 : (Jvm.Cond.methodLink "MembranePlantLaw" (149 : Nat) ({ cls := "MembranePlantModel", name := "energyOf", desc := "(I)I" } : Jvm.MethodName)) ∈ AW := AW_in 1008 (by decide +kernel) rfl
theorem q982 : (Jvm.Cond.instanceMethod ({ cls := "MembranePlantModel", name := "energyOf", desc := "(I)I" } : Jvm.MethodName)) ∈ AW := AW_in 1009 (by decide +kernel) rfl
theorem q983 : (Jvm.Cond.selects "MembranePlantModel" ({ cls := "MembranePlantModel", name := "energyOf", desc := "(I)I" } : Jvm.MethodName) ({ cls := "MembranePlantModel", name := "energyOf", desc := "(I)I" } : Jvm.MethodName)) ∈ AW := AW_in 1010 (by decide +kernel) rfl
theorem q984 : (Jvm.Cond.code ({ cls := "MembranePlantModel", name := "energyOf", desc := "(I)I" } : Jvm.MethodName) prog_8_method_19_code (2 : Nat) (Option.some Jvm.ClassFile.FieldType.int)) ∈ AW := AW_in 1011 (by decide +kernel) rfl
theorem q985 : (Jvm.Cond.methodLink "MembranePlantModel" (97 : Nat) ({ cls := "MembranePlantModel", name := "needs", desc := "(I)I" } : Jvm.MethodName)) ∈ AW := AW_in 1012 (by decide +kernel) rfl
theorem q987 : (Jvm.Cond.instanceMethod ({ cls := "MembranePlantModel", name := "needs", desc := "(I)I" } : Jvm.MethodName)) ∈ AW := AW_in 1014 (by decide +kernel) rfl
theorem q988 : (Jvm.Cond.code ({ cls := "MembranePlantModel", name := "needs", desc := "(I)I" } : Jvm.MethodName) prog_8_method_17_code (2 : Nat) (Option.some Jvm.ClassFile.FieldType.int)) ∈ AW := AW_in 1015 (by decide +kernel) rfl
theorem q989 : (Jvm.Cond.methodLink "MembranePlantModel" (94 : Nat) ({ cls := "MembranePlantModel", name := "takes", desc := "(I)I" } : Jvm.MethodName)) ∈ AW := AW_in 1016 (by decide +kernel) rfl
theorem q991 : (Jvm.Cond.instanceMethod ({ cls := "MembranePlantModel", name := "takes", desc := "(I)I" } : Jvm.MethodName)) ∈ AW := AW_in 1018 (by decide +kernel) rfl
theorem q992 : (Jvm.Cond.code ({ cls := "MembranePlantModel", name := "takes", desc := "(I)I" } : Jvm.MethodName) prog_8_method_16_code (2 : Nat) (Option.some Jvm.ClassFile.FieldType.int)) ∈ AW := AW_in 1019 (by decide +kernel) rfl
theorem q993 : (Jvm.Cond.methodLink "MembranePlantLaw" (153 : Nat) ({ cls := "MembranePlantModel", name := "readyTrains", desc := "()I" } : Jvm.MethodName)) ∈ AW := AW_in 1020 (by decide +kernel) rfl
theorem q994 : (Jvm.Cond.instanceMethod ({ cls := "MembranePlantModel", name := "readyTrains", desc := "()I" } : Jvm.MethodName)) ∈ AW := AW_in 1021 (by decide +kernel) rfl
theorem q995 : (Jvm.Cond.selects "MembranePlantModel" ({ cls := "MembranePlantModel", name := "readyTrains", desc := "()I" } : Jvm.MethodName) ({ cls := "MembranePlantModel", name := "readyTrains", desc := "()I" } : Jvm.MethodName)) ∈ AW := AW_in 1022 (by decide +kernel) rfl
theorem q996 : (Jvm.Cond.code ({ cls := "MembranePlantModel", name := "readyTrains", desc := "()I" } : Jvm.MethodName) prog_8_method_20_code (3 : Nat) (Option.some Jvm.ClassFile.FieldType.int)) ∈ AW := AW_in 1023 (by decide +kernel) rfl
theorem q997 : (Jvm.Cond.methodLink "MembranePlantLaw" (156 : Nat) ({ cls := "MembranePlantModel", name := "addTank", desc := "(I)I" } : Jvm.MethodName)) ∈ AW := AW_in 1024 (by decide +kernel) rfl
theorem q998 : (Jvm.Cond.instanceMethod ({ cls := "MembranePlantModel", name := "addTank", desc := "(I)I" } : Jvm.MethodName)) ∈ AW := AW_in 1025 (by decide +kernel) rfl
theorem q999 : (Jvm.Cond.selects "MembranePlantModel" ({ cls := "MembranePlantModel", name := "addTank", desc := "(I)I" } : Jvm.MethodName) ({ cls := "MembranePlantModel", name := "addTank", desc := "(I)I" } : Jvm.MethodName)) ∈ AW := AW_in 1026 (by decide +kernel) rfl
theorem q1000 : (Jvm.Cond.code ({ cls := "MembranePlantModel", name := "addTank", desc := "(I)I" } : Jvm.MethodName) prog_8_method_21_code (2 : Nat) (Option.some Jvm.ClassFile.FieldType.int)) ∈ AW := AW_in 1027 (by decide +kernel) rfl
theorem q1001 : (Jvm.Cond.constantLong "MembranePlantModel" (100 : Nat) (2000 : Int64)) ∈ AW := AW_in 1028 (by decide +kernel) rfl
theorem q1002 : (Jvm.Cond.methodLink "MembranePlantLaw" (160 : Nat) ({ cls := "MembranePlantModel", name := "setDemand", desc := "(IIII)I" } : Jvm.MethodName)) ∈ AW := AW_in 1029 (by decide +kernel) rfl
theorem q1003 : (Jvm.Cond.instanceMethod ({ cls := "MembranePlantModel", name := "setDemand", desc := "(IIII)I" } : Jvm.MethodName)) ∈ AW := AW_in 1030 (by decide +kernel) rfl
theorem q1004 : (Jvm.Cond.selects "MembranePlantModel" ({ cls := "MembranePlantModel", name := "setDemand", desc := "(IIII)I" } : Jvm.MethodName) ({ cls := "MembranePlantModel", name := "setDemand", desc := "(IIII)I" } : Jvm.MethodName)) ∈ AW := AW_in 1031 (by decide +kernel) rfl
theorem q1005 : (Jvm.Cond.code ({ cls := "MembranePlantModel", name := "setDemand", desc := "(IIII)I" } : Jvm.MethodName) prog_8_method_22_code (8 : Nat) (Option.some Jvm.ClassFile.FieldType.int)) ∈ AW := AW_in 1032 (by decide +kernel) rfl
theorem q1006 : (Jvm.Cond.constantLong "MembranePlantModel" (102 : Nat) (47 : Int64)) ∈ AW := AW_in 1033 (by decide +kernel) rfl
theorem q1007 : (Jvm.Cond.constantLong "MembranePlantModel" (104 : Nat) (200 : Int64)) ∈ AW := AW_in 1034 (by decide +kernel) rfl
theorem q1008 : (Jvm.Cond.methodLink "MembranePlantModel" (106 : Nat) ({ cls := "MembranePlantModel", name := "isTank", desc := "(I)Z" } : Jvm.MethodName)) ∈ AW := AW_in 1035 (by decide +kernel) rfl
theorem q1010 : (Jvm.Cond.instanceMethod ({ cls := "MembranePlantModel", name := "isTank", desc := "(I)Z" } : Jvm.MethodName)) ∈ AW := AW_in 1037 (by decide +kernel) rfl
theorem q1011 : (Jvm.Cond.code ({ cls := "MembranePlantModel", name := "isTank", desc := "(I)Z" } : Jvm.MethodName) prog_8_method_5_code (2 : Nat) (Option.some Jvm.ClassFile.FieldType.boolean)) ∈ AW := AW_in 1038 (by decide +kernel) rfl
theorem q1012 : (Jvm.Cond.methodLink "MembranePlantLaw" (164 : Nat) ({ cls := "MembranePlantModel", name := "setPrice", desc := "(III)I" } : Jvm.MethodName)) ∈ AW := AW_in 1039 (by decide +kernel) rfl
theorem q1013 : (Jvm.Cond.instanceMethod ({ cls := "MembranePlantModel", name := "setPrice", desc := "(III)I" } : Jvm.MethodName)) ∈ AW := AW_in 1040 (by decide +kernel) rfl
theorem q1014 : (Jvm.Cond.selects "MembranePlantModel" ({ cls := "MembranePlantModel", name := "setPrice", desc := "(III)I" } : Jvm.MethodName) ({ cls := "MembranePlantModel", name := "setPrice", desc := "(III)I" } : Jvm.MethodName)) ∈ AW := AW_in 1041 (by decide +kernel) rfl
theorem q1015 : (Jvm.Cond.code ({ cls := "MembranePlantModel", name := "setPrice", desc := "(III)I" } : Jvm.MethodName) prog_8_method_23_code (6 : Nat) (Option.some Jvm.ClassFile.FieldType.int)) ∈ AW := AW_in 1042 (by decide +kernel) rfl
theorem q1016 : (Jvm.Cond.constantLong "MembranePlantModel" (109 : Nat) (99 : Int64)) ∈ AW := AW_in 1043 (by decide +kernel) rfl
theorem q1017 : (Jvm.Cond.methodLink "MembranePlantLaw" (167 : Nat) ({ cls := "MembranePlantModel", name := "demand", desc := "(II)I" } : Jvm.MethodName)) ∈ AW := AW_in 1044 (by decide +kernel) rfl
theorem q1018 : (Jvm.Cond.instanceMethod ({ cls := "MembranePlantModel", name := "demand", desc := "(II)I" } : Jvm.MethodName)) ∈ AW := AW_in 1045 (by decide +kernel) rfl
theorem q1019 : (Jvm.Cond.selects "MembranePlantModel" ({ cls := "MembranePlantModel", name := "demand", desc := "(II)I" } : Jvm.MethodName) ({ cls := "MembranePlantModel", name := "demand", desc := "(II)I" } : Jvm.MethodName)) ∈ AW := AW_in 1046 (by decide +kernel) rfl
theorem q1020 : (Jvm.Cond.code ({ cls := "MembranePlantModel", name := "demand", desc := "(II)I" } : Jvm.MethodName) prog_8_method_24_code (3 : Nat) (Option.some Jvm.ClassFile.FieldType.int)) ∈ AW := AW_in 1047 (by decide +kernel) rfl
theorem q1021 : (Jvm.Cond.methodLink "MembranePlantLaw" (170 : Nat) ({ cls := "MembranePlantModel", name := "level", desc := "(I)I" } : Jvm.MethodName)) ∈ AW := AW_in 1048 (by decide +kernel) rfl
theorem q1022 : (Jvm.Cond.instanceMethod ({ cls := "MembranePlantModel", name := "level", desc := "(I)I" } : Jvm.MethodName)) ∈ AW := AW_in 1049 (by decide +kernel) rfl
theorem q1023 : (Jvm.Cond.selects "MembranePlantModel" ({ cls := "MembranePlantModel", name := "level", desc := "(I)I" } : Jvm.MethodName) ({ cls := "MembranePlantModel", name := "level", desc := "(I)I" } : Jvm.MethodName)) ∈ AW := AW_in 1050 (by decide +kernel) rfl
theorem q1024 : (Jvm.Cond.code ({ cls := "MembranePlantModel", name := "level", desc := "(I)I" } : Jvm.MethodName) prog_8_method_25_code (2 : Nat) (Option.some Jvm.ClassFile.FieldType.int)) ∈ AW := AW_in 1051 (by decide +kernel) rfl
theorem q1025 : (Jvm.Cond.methodLink "MembranePlantLaw" (173 : Nat) ({ cls := "MembranePlantModel", name := "shortOf", desc := "(I)I" } : Jvm.MethodName)) ∈ AW := AW_in 1052 (by decide +kernel) rfl
theorem q1026 : (Jvm.Cond.instanceMethod ({ cls := "MembranePlantModel", name := "shortOf", desc := "(I)I" } : Jvm.MethodName)) ∈ AW := AW_in 1053 (by decide +kernel) rfl
theorem q1027 : (Jvm.Cond.selects "MembranePlantModel" ({ cls := "MembranePlantModel", name := "shortOf", desc := "(I)I" } : Jvm.MethodName) ({ cls := "MembranePlantModel", name := "shortOf", desc := "(I)I" } : Jvm.MethodName)) ∈ AW := AW_in 1054 (by decide +kernel) rfl
theorem q1028 : (Jvm.Cond.code ({ cls := "MembranePlantModel", name := "shortOf", desc := "(I)I" } : Jvm.MethodName) prog_8_method_26_code (2 : Nat) (Option.some Jvm.ClassFile.FieldType.int)) ∈ AW := AW_in 1055 (by decide +kernel) rfl
theorem q1029 : (Jvm.Cond.methodLink "MembranePlantLaw" (178 : Nat) ({ cls := "MembranePlantModel", name := "pass", desc := "(Z)I" } : Jvm.MethodName)) ∈ AW := AW_in 1056 (by decide +kernel) rfl
theorem q1030 : (Jvm.Cond.instanceMethod ({ cls := "MembranePlantModel", name := "pass", desc := "(Z)I" } : Jvm.MethodName)) ∈ AW := AW_in 1057 (by decide +kernel) rfl
theorem q1031 : (Jvm.Cond.selects "MembranePlantModel" ({ cls := "MembranePlantModel", name := "pass", desc := "(Z)I" } : Jvm.MethodName) ({ cls := "MembranePlantModel", name := "pass", desc := "(Z)I" } : Jvm.MethodName)) ∈ AW := AW_in 1058 (by decide +kernel) rfl
theorem q1032 : (Jvm.Cond.code ({ cls := "MembranePlantModel", name := "pass", desc := "(Z)I" } : Jvm.MethodName) prog_8_method_33_code (2 : Nat) (Option.some Jvm.ClassFile.FieldType.int)) ∈ AW := AW_in 1059 (by decide +kernel) rfl
theorem q1033 : (Jvm.Cond.methodLink "MembranePlantModel" (171 : Nat) ({ cls := "MembranePlantModel", name := "passes", desc := "(Z)V" } : Jvm.MethodName)) ∈ AW := AW_in 1060 (by decide +kernel) rfl
theorem q1035 : (Jvm.Cond.instanceMethod ({ cls := "MembranePlantModel", name := "passes", desc := "(Z)V" } : Jvm.MethodName)) ∈ AW := AW_in 1062 (by decide +kernel) rfl
theorem q1036 : (Jvm.Cond.code ({ cls := "MembranePlantModel", name := "passes", desc := "(Z)V" } : Jvm.MethodName) prog_8_method_32_code (4 : Nat) (Option.none : Option Jvm.ClassFile.FieldType)) ∈ AW := AW_in 1063 (by decide +kernel) rfl
theorem q1037 : (Jvm.Cond.methodLink "MembranePlantModel" (142 : Nat) ({ cls := "MembranePlantModel", name := "goes", desc := "(IZ)Z" } : Jvm.MethodName)) ∈ AW := AW_in 1064 (by decide +kernel) rfl
theorem q1039 : (Jvm.Cond.instanceMethod ({ cls := "MembranePlantModel", name := "goes", desc := "(IZ)Z" } : Jvm.MethodName)) ∈ AW := AW_in 1066 (by decide +kernel) rfl
theorem q1040 : (Jvm.Cond.code ({ cls := "MembranePlantModel", name := "goes", desc := "(IZ)Z" } : Jvm.MethodName) prog_8_method_29_code (7 : Nat) (Option.some Jvm.ClassFile.FieldType.boolean)) ∈ AW := AW_in 1067 (by decide +kernel) rfl
theorem q1041 : (Jvm.Cond.methodLink "MembranePlantModel" (126 : Nat) ({ cls := "MembranePlantModel", name := "cleans", desc := "(I)V" } : Jvm.MethodName)) ∈ AW := AW_in 1068 (by decide +kernel) rfl
theorem q1043 : (Jvm.Cond.instanceMethod ({ cls := "MembranePlantModel", name := "cleans", desc := "(I)V" } : Jvm.MethodName)) ∈ AW := AW_in 1070 (by decide +kernel) rfl
theorem q1044 : (Jvm.Cond.code ({ cls := "MembranePlantModel", name := "cleans", desc := "(I)V" } : Jvm.MethodName) prog_8_method_27_code (2 : Nat) (Option.none : Option Jvm.ClassFile.FieldType)) ∈ AW := AW_in 1071 (by decide +kernel) rfl
theorem q1045 : (Jvm.Cond.methodLink "MembranePlantModel" (111 : Nat) ({ cls := "java/lang/Math", name := "min", desc := "(II)I" } : Jvm.MethodName)) ∈ AW := AW_in 1072 (by decide +kernel) rfl
theorem q1046 : (Jvm.Cond.methodLink "MembranePlantModel" (130 : Nat) ({ cls := "MembranePlantModel", name := "works", desc := "(I)V" } : Jvm.MethodName)) ∈ AW := AW_in 1073 (by decide +kernel) rfl
theorem q1048 : (Jvm.Cond.instanceMethod ({ cls := "MembranePlantModel", name := "works", desc := "(I)V" } : Jvm.MethodName)) ∈ AW := AW_in 1075 (by decide +kernel) rfl
theorem q1049 : (Jvm.Cond.code ({ cls := "MembranePlantModel", name := "works", desc := "(I)V" } : Jvm.MethodName) prog_8_method_28_code (3 : Nat) (Option.none : Option Jvm.ClassFile.FieldType)) ∈ AW := AW_in 1076 (by decide +kernel) rfl
theorem q1050 : (Jvm.Cond.methodLink "MembranePlantModel" (165 : Nat) ({ cls := "MembranePlantModel", name := "orderAt", desc := "(I)I" } : Jvm.MethodName)) ∈ AW := AW_in 1077 (by decide +kernel) rfl
theorem q1052 : (Jvm.Cond.instanceMethod ({ cls := "MembranePlantModel", name := "orderAt", desc := "(I)I" } : Jvm.MethodName)) ∈ AW := AW_in 1079 (by decide +kernel) rfl
theorem q1053 : (Jvm.Cond.code ({ cls := "MembranePlantModel", name := "orderAt", desc := "(I)I" } : Jvm.MethodName) prog_8_method_30_code (3 : Nat) (Option.some Jvm.ClassFile.FieldType.int)) ∈ AW := AW_in 1080 (by decide +kernel) rfl
theorem q1054 : (Jvm.Cond.methodLink "MembranePlantModel" (168 : Nat) ({ cls := "MembranePlantModel", name := "forgets", desc := "(I)V" } : Jvm.MethodName)) ∈ AW := AW_in 1081 (by decide +kernel) rfl
theorem q1056 : (Jvm.Cond.instanceMethod ({ cls := "MembranePlantModel", name := "forgets", desc := "(I)V" } : Jvm.MethodName)) ∈ AW := AW_in 1083 (by decide +kernel) rfl
theorem q1057 : (Jvm.Cond.code ({ cls := "MembranePlantModel", name := "forgets", desc := "(I)V" } : Jvm.MethodName) prog_8_method_31_code (2 : Nat) (Option.none : Option Jvm.ClassFile.FieldType)) ∈ AW := AW_in 1084 (by decide +kernel) rfl
theorem q1058 : (Jvm.Cond.methodLink "MembranePlantLaw" (181 : Nat) ({ cls := "MembranePlantModel", name := "run", desc := "(I)I" } : Jvm.MethodName)) ∈ AW := AW_in 1085 (by decide +kernel) rfl
theorem q1059 : (Jvm.Cond.instanceMethod ({ cls := "MembranePlantModel", name := "run", desc := "(I)I" } : Jvm.MethodName)) ∈ AW := AW_in 1086 (by decide +kernel) rfl
theorem q1060 : (Jvm.Cond.selects "MembranePlantModel" ({ cls := "MembranePlantModel", name := "run", desc := "(I)I" } : Jvm.MethodName) ({ cls := "MembranePlantModel", name := "run", desc := "(I)I" } : Jvm.MethodName)) ∈ AW := AW_in 1087 (by decide +kernel) rfl
theorem q1061 : (Jvm.Cond.code ({ cls := "MembranePlantModel", name := "run", desc := "(I)I" } : Jvm.MethodName) prog_8_method_34_code (6 : Nat) (Option.some Jvm.ClassFile.FieldType.int)) ∈ AW := AW_in 1088 (by decide +kernel) rfl
theorem q1062 : (Jvm.Cond.constantLong "MembranePlantModel" (175 : Nat) (12 : Int64)) ∈ AW := AW_in 1089 (by decide +kernel) rfl
theorem q1063 : (Jvm.Cond.methodLink "MembranePlantModel" (177 : Nat) ({ cls := "MembranePlantModel", name := "looks", desc := "(I)V" } : Jvm.MethodName)) ∈ AW := AW_in 1090 (by decide +kernel) rfl
theorem q1065 : (Jvm.Cond.instanceMethod ({ cls := "MembranePlantModel", name := "looks", desc := "(I)V" } : Jvm.MethodName)) ∈ AW := AW_in 1092 (by decide +kernel) rfl
theorem q1066 : (Jvm.Cond.code ({ cls := "MembranePlantModel", name := "looks", desc := "(I)V" } : Jvm.MethodName) prog_8_method_41_code (4 : Nat) (Option.none : Option Jvm.ClassFile.FieldType)) ∈ AW := AW_in 1093 (by decide +kernel) rfl
theorem q1067 : (Jvm.Cond.methodLink "MembranePlantModel" (191 : Nat) ({ cls := "MembranePlantModel", name := "laysBack", desc := "([I[I)V" } : Jvm.MethodName)) ∈ AW := AW_in 1094 (by decide +kernel) rfl
theorem q1069 : (Jvm.Cond.instanceMethod ({ cls := "MembranePlantModel", name := "laysBack", desc := "([I[I)V" } : Jvm.MethodName)) ∈ AW := AW_in 1096 (by decide +kernel) rfl
theorem q1070 : (Jvm.Cond.code ({ cls := "MembranePlantModel", name := "laysBack", desc := "([I[I)V" } : Jvm.MethodName) prog_8_method_40_code (4 : Nat) (Option.none : Option Jvm.ClassFile.FieldType)) ∈ AW := AW_in 1097 (by decide +kernel) rfl
theorem q1071 : (Jvm.Cond.methodLink "MembranePlantModel" (195 : Nat) ({ cls := "MembranePlantModel", name := "isAllowed", desc := "(II)Z" } : Jvm.MethodName)) ∈ AW := AW_in 1098 (by decide +kernel) rfl
theorem q1073 : (Jvm.Cond.instanceMethod ({ cls := "MembranePlantModel", name := "isAllowed", desc := "(II)Z" } : Jvm.MethodName)) ∈ AW := AW_in 1100 (by decide +kernel) rfl
theorem q1074 : (Jvm.Cond.code ({ cls := "MembranePlantModel", name := "isAllowed", desc := "(II)Z" } : Jvm.MethodName) prog_8_method_39_code (8 : Nat) (Option.some Jvm.ClassFile.FieldType.boolean)) ∈ AW := AW_in 1101 (by decide +kernel) rfl
theorem q1075 : (Jvm.Cond.methodLink "MembranePlantLaw" (184 : Nat) ({ cls := "MembranePlantModel", name := "setHorizon", desc := "(I)I" } : Jvm.MethodName)) ∈ AW := AW_in 1102 (by decide +kernel) rfl
theorem q1076 : (Jvm.Cond.instanceMethod ({ cls := "MembranePlantModel", name := "setHorizon", desc := "(I)I" } : Jvm.MethodName)) ∈ AW := AW_in 1103 (by decide +kernel) rfl
theorem q1077 : (Jvm.Cond.selects "MembranePlantModel" ({ cls := "MembranePlantModel", name := "setHorizon", desc := "(I)I" } : Jvm.MethodName) ({ cls := "MembranePlantModel", name := "setHorizon", desc := "(I)I" } : Jvm.MethodName)) ∈ AW := AW_in 1104 (by decide +kernel) rfl
theorem q1078 : (Jvm.Cond.code ({ cls := "MembranePlantModel", name := "setHorizon", desc := "(I)I" } : Jvm.MethodName) prog_8_method_35_code (3 : Nat) (Option.some Jvm.ClassFile.FieldType.int)) ∈ AW := AW_in 1105 (by decide +kernel) rfl
theorem q1079 : (Jvm.Cond.constantLong "MembranePlantModel" (186 : Nat) (6 : Int64)) ∈ AW := AW_in 1106 (by decide +kernel) rfl
theorem q1080 : (Jvm.Cond.methodLink "MembranePlantLaw" (188 : Nat) ({ cls := "MembranePlantModel", name := "order", desc := "(IZ)I" } : Jvm.MethodName)) ∈ AW := AW_in 1107 (by decide +kernel) rfl
theorem q1081 : (Jvm.Cond.instanceMethod ({ cls := "MembranePlantModel", name := "order", desc := "(IZ)I" } : Jvm.MethodName)) ∈ AW := AW_in 1108 (by decide +kernel) rfl
theorem q1082 : (Jvm.Cond.selects "MembranePlantModel" ({ cls := "MembranePlantModel", name := "order", desc := "(IZ)I" } : Jvm.MethodName) ({ cls := "MembranePlantModel", name := "order", desc := "(IZ)I" } : Jvm.MethodName)) ∈ AW := AW_in 1109 (by decide +kernel) rfl
theorem q1083 : (Jvm.Cond.code ({ cls := "MembranePlantModel", name := "order", desc := "(IZ)I" } : Jvm.MethodName) prog_8_method_36_code (4 : Nat) (Option.some Jvm.ClassFile.FieldType.int)) ∈ AW := AW_in 1110 (by decide +kernel) rfl
theorem q1084 : (Jvm.Cond.methodLink "MembranePlantLaw" (191 : Nat) ({ cls := "MembranePlantModel", name := "takeBack", desc := "(I)Z" } : Jvm.MethodName)) ∈ AW := AW_in 1111 (by decide +kernel) rfl
theorem q1085 : (Jvm.Cond.instanceMethod ({ cls := "MembranePlantModel", name := "takeBack", desc := "(I)Z" } : Jvm.MethodName)) ∈ AW := AW_in 1112 (by decide +kernel) rfl
theorem q1086 : (Jvm.Cond.selects "MembranePlantModel" ({ cls := "MembranePlantModel", name := "takeBack", desc := "(I)Z" } : Jvm.MethodName) ({ cls := "MembranePlantModel", name := "takeBack", desc := "(I)Z" } : Jvm.MethodName)) ∈ AW := AW_in 1113 (by decide +kernel) rfl
theorem q1087 : (Jvm.Cond.code ({ cls := "MembranePlantModel", name := "takeBack", desc := "(I)Z" } : Jvm.MethodName) prog_8_method_37_code (4 : Nat) (Option.some Jvm.ClassFile.FieldType.boolean)) ∈ AW := AW_in 1114 (by decide +kernel) rfl
theorem q1088 : (Jvm.Cond.methodLink "MembranePlantLaw" (195 : Nat) ({ cls := "MembranePlantModel", name := "halfHour", desc := "()I" } : Jvm.MethodName)) ∈ AW := AW_in 1115 (by decide +kernel) rfl
theorem q1089 : (Jvm.Cond.instanceMethod ({ cls := "MembranePlantModel", name := "halfHour", desc := "()I" } : Jvm.MethodName)) ∈ AW := AW_in 1116 (by decide +kernel) rfl
theorem q1090 : (Jvm.Cond.selects "MembranePlantModel" ({ cls := "MembranePlantModel", name := "halfHour", desc := "()I" } : Jvm.MethodName) ({ cls := "MembranePlantModel", name := "halfHour", desc := "()I" } : Jvm.MethodName)) ∈ AW := AW_in 1117 (by decide +kernel) rfl
theorem q1091 : (Jvm.Cond.code ({ cls := "MembranePlantModel", name := "halfHour", desc := "()I" } : Jvm.MethodName) prog_8_method_38_code (1 : Nat) (Option.some Jvm.ClassFile.FieldType.int)) ∈ AW := AW_in 1118 (by decide +kernel) rfl
theorem q1092 : (Jvm.Cond.methodLink "MembranePlantLaw" (198 : Nat) ({ cls := "MembranePlantModel", name := "bestCost", desc := "(I)I" } : Jvm.MethodName)) ∈ AW := AW_in 1119 (by decide +kernel) rfl
theorem q1093 : (Jvm.Cond.instanceMethod ({ cls := "MembranePlantModel", name := "bestCost", desc := "(I)I" } : Jvm.MethodName)) ∈ AW := AW_in 1120 (by decide +kernel) rfl
theorem q1094 : (Jvm.Cond.selects "MembranePlantModel" ({ cls := "MembranePlantModel", name := "bestCost", desc := "(I)I" } : Jvm.MethodName) ({ cls := "MembranePlantModel", name := "bestCost", desc := "(I)I" } : Jvm.MethodName)) ∈ AW := AW_in 1121 (by decide +kernel) rfl
theorem q1095 : (Jvm.Cond.code ({ cls := "MembranePlantModel", name := "bestCost", desc := "(I)I" } : Jvm.MethodName) prog_8_method_42_code (2 : Nat) (Option.some Jvm.ClassFile.FieldType.int)) ∈ AW := AW_in 1122 (by decide +kernel) rfl
theorem q1096 : (Jvm.Cond.methodLink "MembranePlantLaw" (201 : Nat) ({ cls := "MembranePlantModel", name := "bestCostByTrying", desc := "(I)I" } : Jvm.MethodName)) ∈ AW := AW_in 1123 (by decide +kernel) rfl
theorem q1097 : (Jvm.Cond.instanceMethod ({ cls := "MembranePlantModel", name := "bestCostByTrying", desc := "(I)I" } : Jvm.MethodName)) ∈ AW := AW_in 1124 (by decide +kernel) rfl
theorem q1098 : (Jvm.Cond.selects "MembranePlantModel" ({ cls := "MembranePlantModel", name := "bestCostByTrying", desc := "(I)I" } : Jvm.MethodName) ({ cls := "MembranePlantModel", name := "bestCostByTrying", desc := "(I)I" } : Jvm.MethodName)) ∈ AW := AW_in 1125 (by decide +kernel) rfl
theorem q1099 : (Jvm.Cond.code ({ cls := "MembranePlantModel", name := "bestCostByTrying", desc := "(I)I" } : Jvm.MethodName) prog_8_method_43_code (2 : Nat) (Option.some Jvm.ClassFile.FieldType.int)) ∈ AW := AW_in 1126 (by decide +kernel) rfl
theorem q1100 : (Jvm.Cond.methodLink "MembranePlantModel" (202 : Nat) ({ cls := "MembranePlantModel", name := "bestCost", desc := "(I)I" } : Jvm.MethodName)) ∈ AW := AW_in 1127 (by decide +kernel) rfl
theorem q1101 : (Jvm.Cond.methodLink "MembranePlantLaw" (204 : Nat) ({ cls := "MembranePlantModel", name := "isOnInBest", desc := "(II)Z" } : Jvm.MethodName)) ∈ AW := AW_in 1128 (by decide +kernel) rfl
theorem q1102 : (Jvm.Cond.instanceMethod ({ cls := "MembranePlantModel", name := "isOnInBest", desc := "(II)Z" } : Jvm.MethodName)) ∈ AW := AW_in 1129 (by decide +kernel) rfl
theorem q1103 : (Jvm.Cond.selects "MembranePlantModel" ({ cls := "MembranePlantModel", name := "isOnInBest", desc := "(II)Z" } : Jvm.MethodName) ({ cls := "MembranePlantModel", name := "isOnInBest", desc := "(II)Z" } : Jvm.MethodName)) ∈ AW := AW_in 1130 (by decide +kernel) rfl
theorem q1104 : (Jvm.Cond.code ({ cls := "MembranePlantModel", name := "isOnInBest", desc := "(II)Z" } : Jvm.MethodName) prog_8_method_44_code (3 : Nat) (Option.some Jvm.ClassFile.FieldType.boolean)) ∈ AW := AW_in 1131 (by decide +kernel) rfl
theorem q1105 : (Jvm.Cond.methodLink "MembranePlantLaw" (207 : Nat) ({ cls := "MembranePlantModel", name := "allowedSchedules", desc := "(I)I" } : Jvm.MethodName)) ∈ AW := AW_in 1132 (by decide +kernel) rfl
theorem q1106 : (Jvm.Cond.instanceMethod ({ cls := "MembranePlantModel", name := "allowedSchedules", desc := "(I)I" } : Jvm.MethodName)) ∈ AW := AW_in 1133 (by decide +kernel) rfl
theorem q1107 : (Jvm.Cond.selects "MembranePlantModel" ({ cls := "MembranePlantModel", name := "allowedSchedules", desc := "(I)I" } : Jvm.MethodName) ({ cls := "MembranePlantModel", name := "allowedSchedules", desc := "(I)I" } : Jvm.MethodName)) ∈ AW := AW_in 1134 (by decide +kernel) rfl
theorem q1108 : (Jvm.Cond.code ({ cls := "MembranePlantModel", name := "allowedSchedules", desc := "(I)I" } : Jvm.MethodName) prog_8_method_45_code (2 : Nat) (Option.some Jvm.ClassFile.FieldType.int)) ∈ AW := AW_in 1135 (by decide +kernel) rfl
theorem q1109 : (Jvm.Cond.methodLink "MembranePlantLaw" (212 : Nat) ({ cls := "MembranePlantModel", name := "feed", desc := "()J" } : Jvm.MethodName)) ∈ AW := AW_in 1136 (by decide +kernel) rfl
theorem q1110 : (Jvm.Cond.instanceMethod ({ cls := "MembranePlantModel", name := "feed", desc := "()J" } : Jvm.MethodName)) ∈ AW := AW_in 1137 (by decide +kernel) rfl
theorem q1111 : (Jvm.Cond.selects "MembranePlantModel" ({ cls := "MembranePlantModel", name := "feed", desc := "()J" } : Jvm.MethodName) ({ cls := "MembranePlantModel", name := "feed", desc := "()J" } : Jvm.MethodName)) ∈ AW := AW_in 1138 (by decide +kernel) rfl
theorem q1112 : (Jvm.Cond.code ({ cls := "MembranePlantModel", name := "feed", desc := "()J" } : Jvm.MethodName) prog_8_method_46_code (1 : Nat) (Option.some Jvm.ClassFile.FieldType.long)) ∈ AW := AW_in 1139 (by decide +kernel) rfl
theorem q1113 : (Jvm.Cond.methodLink "MembranePlantLaw" (216 : Nat) ({ cls := "MembranePlantModel", name := "product", desc := "()J" } : Jvm.MethodName)) ∈ AW := AW_in 1140 (by decide +kernel) rfl
theorem q1114 : (Jvm.Cond.instanceMethod ({ cls := "MembranePlantModel", name := "product", desc := "()J" } : Jvm.MethodName)) ∈ AW := AW_in 1141 (by decide +kernel) rfl
theorem q1115 : (Jvm.Cond.selects "MembranePlantModel" ({ cls := "MembranePlantModel", name := "product", desc := "()J" } : Jvm.MethodName) ({ cls := "MembranePlantModel", name := "product", desc := "()J" } : Jvm.MethodName)) ∈ AW := AW_in 1142 (by decide +kernel) rfl
theorem q1116 : (Jvm.Cond.code ({ cls := "MembranePlantModel", name := "product", desc := "()J" } : Jvm.MethodName) prog_8_method_47_code (1 : Nat) (Option.some Jvm.ClassFile.FieldType.long)) ∈ AW := AW_in 1143 (by decide +kernel) rfl
theorem q1117 : (Jvm.Cond.methodLink "MembranePlantLaw" (220 : Nat) ({ cls := "MembranePlantModel", name := "brine", desc := "()J" } : Jvm.MethodName)) ∈ AW := AW_in 1144 (by decide +kernel) rfl
theorem q1118 : (Jvm.Cond.instanceMethod ({ cls := "MembranePlantModel", name := "brine", desc := "()J" } : Jvm.MethodName)) ∈ AW := AW_in 1145 (by decide +kernel) rfl
theorem q1119 : (Jvm.Cond.selects "MembranePlantModel" ({ cls := "MembranePlantModel", name := "brine", desc := "()J" } : Jvm.MethodName) ({ cls := "MembranePlantModel", name := "brine", desc := "()J" } : Jvm.MethodName)) ∈ AW := AW_in 1146 (by decide +kernel) rfl
theorem q1120 : (Jvm.Cond.code ({ cls := "MembranePlantModel", name := "brine", desc := "()J" } : Jvm.MethodName) prog_8_method_48_code (1 : Nat) (Option.some Jvm.ClassFile.FieldType.long)) ∈ AW := AW_in 1147 (by decide +kernel) rfl
theorem q1121 : (Jvm.Cond.methodLink "MembranePlantLaw" (224 : Nat) ({ cls := "MembranePlantModel", name := "spilled", desc := "()J" } : Jvm.MethodName)) ∈ AW := AW_in 1148 (by decide +kernel) rfl
theorem q1122 : (Jvm.Cond.instanceMethod ({ cls := "MembranePlantModel", name := "spilled", desc := "()J" } : Jvm.MethodName)) ∈ AW := AW_in 1149 (by decide +kernel) rfl
theorem q1123 : (Jvm.Cond.selects "MembranePlantModel" ({ cls := "MembranePlantModel", name := "spilled", desc := "()J" } : Jvm.MethodName) ({ cls := "MembranePlantModel", name := "spilled", desc := "()J" } : Jvm.MethodName)) ∈ AW := AW_in 1150 (by decide +kernel) rfl
theorem q1124 : (Jvm.Cond.code ({ cls := "MembranePlantModel", name := "spilled", desc := "()J" } : Jvm.MethodName) prog_8_method_49_code (1 : Nat) (Option.some Jvm.ClassFile.FieldType.long)) ∈ AW := AW_in 1151 (by decide +kernel) rfl
theorem q1125 : (Jvm.Cond.methodLink "MembranePlantLaw" (228 : Nat) ({ cls := "MembranePlantModel", name := "spilledByBalance", desc := "()J" } : Jvm.MethodName)) ∈ AW := AW_in 1152 (by decide +kernel) rfl
theorem q1126 : (Jvm.Cond.instanceMethod ({ cls := "MembranePlantModel", name := "spilledByBalance", desc := "()J" } : Jvm.MethodName)) ∈ AW := AW_in 1153 (by decide +kernel) rfl
theorem q1127 : (Jvm.Cond.selects "MembranePlantModel" ({ cls := "MembranePlantModel", name := "spilledByBalance", desc := "()J" } : Jvm.MethodName) ({ cls := "MembranePlantModel", name := "spilledByBalance", desc := "()J" } : Jvm.MethodName)) ∈ AW := AW_in 1154 (by decide +kernel) rfl
theorem q1128 : (Jvm.Cond.code ({ cls := "MembranePlantModel", name := "spilledByBalance", desc := "()J" } : Jvm.MethodName) prog_8_method_50_code (1 : Nat) (Option.some Jvm.ClassFile.FieldType.long)) ∈ AW := AW_in 1155 (by decide +kernel) rfl
theorem q1129 : (Jvm.Cond.methodLink "MembranePlantModel" (204 : Nat) ({ cls := "MembranePlantModel", name := "spilled", desc := "()J" } : Jvm.MethodName)) ∈ AW := AW_in 1156 (by decide +kernel) rfl
theorem q1130 : (Jvm.Cond.methodLink "MembranePlantLaw" (232 : Nat) ({ cls := "MembranePlantModel", name := "cost", desc := "()J" } : Jvm.MethodName)) ∈ AW := AW_in 1157 (by decide +kernel) rfl
theorem q1131 : (Jvm.Cond.instanceMethod ({ cls := "MembranePlantModel", name := "cost", desc := "()J" } : Jvm.MethodName)) ∈ AW := AW_in 1158 (by decide +kernel) rfl
theorem q1132 : (Jvm.Cond.selects "MembranePlantModel" ({ cls := "MembranePlantModel", name := "cost", desc := "()J" } : Jvm.MethodName) ({ cls := "MembranePlantModel", name := "cost", desc := "()J" } : Jvm.MethodName)) ∈ AW := AW_in 1159 (by decide +kernel) rfl
theorem q1133 : (Jvm.Cond.code ({ cls := "MembranePlantModel", name := "cost", desc := "()J" } : Jvm.MethodName) prog_8_method_51_code (1 : Nat) (Option.some Jvm.ClassFile.FieldType.long)) ∈ AW := AW_in 1160 (by decide +kernel) rfl
theorem q1134 : (Jvm.Cond.methodLink "MembranePlantLaw" (237 : Nat) ({ cls := "MembranePlantModel", name := "isBalanced", desc := "()Z" } : Jvm.MethodName)) ∈ AW := AW_in 1161 (by decide +kernel) rfl
theorem q1135 : (Jvm.Cond.instanceMethod ({ cls := "MembranePlantModel", name := "isBalanced", desc := "()Z" } : Jvm.MethodName)) ∈ AW := AW_in 1162 (by decide +kernel) rfl
theorem q1136 : (Jvm.Cond.selects "MembranePlantModel" ({ cls := "MembranePlantModel", name := "isBalanced", desc := "()Z" } : Jvm.MethodName) ({ cls := "MembranePlantModel", name := "isBalanced", desc := "()Z" } : Jvm.MethodName)) ∈ AW := AW_in 1163 (by decide +kernel) rfl
theorem q1137 : (Jvm.Cond.code ({ cls := "MembranePlantModel", name := "isBalanced", desc := "()Z" } : Jvm.MethodName) prog_8_method_52_code (1 : Nat) (Option.some Jvm.ClassFile.FieldType.boolean)) ∈ AW := AW_in 1164 (by decide +kernel) rfl
theorem q1138 : (Jvm.Cond.methodLink "MembranePlantLaw" (241 : Nat) ({ cls := "MembranePlantModel", name := "servedShare", desc := "()F" } : Jvm.MethodName)) ∈ AW := AW_in 1165 (by decide +kernel) rfl
theorem q1139 : (Jvm.Cond.instanceMethod ({ cls := "MembranePlantModel", name := "servedShare", desc := "()F" } : Jvm.MethodName)) ∈ AW := AW_in 1166 (by decide +kernel) rfl
theorem q1140 : (Jvm.Cond.selects "MembranePlantModel" ({ cls := "MembranePlantModel", name := "servedShare", desc := "()F" } : Jvm.MethodName) ({ cls := "MembranePlantModel", name := "servedShare", desc := "()F" } : Jvm.MethodName)) ∈ AW := AW_in 1167 (by decide +kernel) rfl
theorem q1141 : (Jvm.Cond.code ({ cls := "MembranePlantModel", name := "servedShare", desc := "()F" } : Jvm.MethodName) prog_8_method_53_code (1 : Nat) (Option.some Jvm.ClassFile.FieldType.float)) ∈ AW := AW_in 1168 (by decide +kernel) rfl
theorem q1142 : (Jvm.Cond.methodLink "MembranePlantLaw" (244 : Nat) ({ cls := "MembranePlantModel", name := "meanCost", desc := "()D" } : Jvm.MethodName)) ∈ AW := AW_in 1169 (by decide +kernel) rfl
theorem q1143 : (Jvm.Cond.instanceMethod ({ cls := "MembranePlantModel", name := "meanCost", desc := "()D" } : Jvm.MethodName)) ∈ AW := AW_in 1170 (by decide +kernel) rfl
theorem q1144 : (Jvm.Cond.selects "MembranePlantModel" ({ cls := "MembranePlantModel", name := "meanCost", desc := "()D" } : Jvm.MethodName) ({ cls := "MembranePlantModel", name := "meanCost", desc := "()D" } : Jvm.MethodName)) ∈ AW := AW_in 1171 (by decide +kernel) rfl
theorem q1145 : (Jvm.Cond.code ({ cls := "MembranePlantModel", name := "meanCost", desc := "()D" } : Jvm.MethodName) prog_8_method_54_code (1 : Nat) (Option.some Jvm.ClassFile.FieldType.double)) ∈ AW := AW_in 1172 (by decide +kernel) rfl
theorem q1146 : (Jvm.Cond.arrayClass Jvm.ClassFile.FieldType.long) ∈ AW := AW_in 1173 (by decide +kernel) rfl
theorem q1147 : (Jvm.Cond.arrayClass Jvm.ClassFile.FieldType.double) ∈ AW := AW_in 1174 (by decide +kernel) rfl
end
section
/-! THE WORLD: 81 cells, by numbers; what they hold is read off one value of Sg -/
abbrev cls7 : List vw_C := [(RX0, TX0, 9), (RX1, TX1, 3), (RX2, TX2, 8), (RX3, TX3, 9), (RX4, TX4, 13), (RX5, TX5, 7), (RX6, TX6, 34)]
theorem layX0 : ∀ k, k < 9 → u_lay RX0 TX0 k ∈ AW
  | 0, _ => AW_in 246 (by decide +kernel) rfl
  | 1, _ => AW_in 248 (by decide +kernel) rfl
  | 2, _ => AW_in 250 (by decide +kernel) rfl
  | 3, _ => AW_in 252 (by decide +kernel) rfl
  | 4, _ => AW_in 254 (by decide +kernel) rfl
  | 5, _ => AW_in 256 (by decide +kernel) rfl
  | 6, _ => AW_in 258 (by decide +kernel) rfl
  | 7, _ => AW_in 260 (by decide +kernel) rfl
  | 8, _ => AW_in 262 (by decide +kernel) rfl
  | k + 9, h => absurd h (by omega)
theorem layX1 : ∀ k, k < 3 → u_lay RX1 TX1 k ∈ AW
  | 0, _ => AW_in 180 (by decide +kernel) rfl
  | 1, _ => AW_in 182 (by decide +kernel) rfl
  | 2, _ => AW_in 184 (by decide +kernel) rfl
  | k + 3, h => absurd h (by omega)
theorem layX2 : ∀ k, k < 8 → u_lay RX2 TX2 k ∈ AW
  | 0, _ => AW_in 206 (by decide +kernel) rfl
  | 1, _ => AW_in 208 (by decide +kernel) rfl
  | 2, _ => AW_in 210 (by decide +kernel) rfl
  | 3, _ => AW_in 212 (by decide +kernel) rfl
  | 4, _ => AW_in 214 (by decide +kernel) rfl
  | 5, _ => AW_in 216 (by decide +kernel) rfl
  | 6, _ => AW_in 218 (by decide +kernel) rfl
  | 7, _ => AW_in 220 (by decide +kernel) rfl
  | k + 8, h => absurd h (by omega)
theorem layX3 : ∀ k, k < 9 → u_lay RX3 TX3 k ∈ AW
  | 0, _ => AW_in 89 (by decide +kernel) rfl
  | 1, _ => AW_in 91 (by decide +kernel) rfl
  | 2, _ => AW_in 93 (by decide +kernel) rfl
  | 3, _ => AW_in 95 (by decide +kernel) rfl
  | 4, _ => AW_in 97 (by decide +kernel) rfl
  | 5, _ => AW_in 99 (by decide +kernel) rfl
  | 6, _ => AW_in 101 (by decide +kernel) rfl
  | 7, _ => AW_in 103 (by decide +kernel) rfl
  | 8, _ => AW_in 105 (by decide +kernel) rfl
  | k + 9, h => absurd h (by omega)
theorem layX4 : ∀ k, k < 13 → u_lay RX4 TX4 k ∈ AW
  | 0, _ => AW_in 143 (by decide +kernel) rfl
  | 1, _ => AW_in 145 (by decide +kernel) rfl
  | 2, _ => AW_in 147 (by decide +kernel) rfl
  | 3, _ => AW_in 149 (by decide +kernel) rfl
  | 4, _ => AW_in 151 (by decide +kernel) rfl
  | 5, _ => AW_in 153 (by decide +kernel) rfl
  | 6, _ => AW_in 155 (by decide +kernel) rfl
  | 7, _ => AW_in 157 (by decide +kernel) rfl
  | 8, _ => AW_in 159 (by decide +kernel) rfl
  | 9, _ => AW_in 161 (by decide +kernel) rfl
  | 10, _ => AW_in 163 (by decide +kernel) rfl
  | 11, _ => AW_in 165 (by decide +kernel) rfl
  | 12, _ => AW_in 167 (by decide +kernel) rfl
  | k + 13, h => absurd h (by omega)
theorem layX5 : ∀ k, k < 7 → u_lay RX5 TX5 k ∈ AW
  | 0, _ => AW_in 272 (by decide +kernel) rfl
  | 1, _ => AW_in 274 (by decide +kernel) rfl
  | 2, _ => AW_in 276 (by decide +kernel) rfl
  | 3, _ => AW_in 278 (by decide +kernel) rfl
  | 4, _ => AW_in 280 (by decide +kernel) rfl
  | 5, _ => AW_in 282 (by decide +kernel) rfl
  | 6, _ => AW_in 284 (by decide +kernel) rfl
  | k + 7, h => absurd h (by omega)
theorem layX6 : ∀ k, k < 34 → u_lay RX6 TX6 k ∈ AW
  | 0, _ => AW_in 875 (by decide +kernel) rfl
  | 1, _ => AW_in 877 (by decide +kernel) rfl
  | 2, _ => AW_in 879 (by decide +kernel) rfl
  | 3, _ => AW_in 881 (by decide +kernel) rfl
  | 4, _ => AW_in 883 (by decide +kernel) rfl
  | 5, _ => AW_in 885 (by decide +kernel) rfl
  | 6, _ => AW_in 887 (by decide +kernel) rfl
  | 7, _ => AW_in 889 (by decide +kernel) rfl
  | 8, _ => AW_in 891 (by decide +kernel) rfl
  | 9, _ => AW_in 893 (by decide +kernel) rfl
  | 10, _ => AW_in 895 (by decide +kernel) rfl
  | 11, _ => AW_in 897 (by decide +kernel) rfl
  | 12, _ => AW_in 899 (by decide +kernel) rfl
  | 13, _ => AW_in 901 (by decide +kernel) rfl
  | 14, _ => AW_in 903 (by decide +kernel) rfl
  | 15, _ => AW_in 905 (by decide +kernel) rfl
  | 16, _ => AW_in 907 (by decide +kernel) rfl
  | 17, _ => AW_in 909 (by decide +kernel) rfl
  | 18, _ => AW_in 911 (by decide +kernel) rfl
  | 19, _ => AW_in 913 (by decide +kernel) rfl
  | 20, _ => AW_in 915 (by decide +kernel) rfl
  | 21, _ => AW_in 917 (by decide +kernel) rfl
  | 22, _ => AW_in 919 (by decide +kernel) rfl
  | 23, _ => AW_in 921 (by decide +kernel) rfl
  | 24, _ => AW_in 923 (by decide +kernel) rfl
  | 25, _ => AW_in 925 (by decide +kernel) rfl
  | 26, _ => AW_in 927 (by decide +kernel) rfl
  | 27, _ => AW_in 929 (by decide +kernel) rfl
  | 28, _ => AW_in 931 (by decide +kernel) rfl
  | 29, _ => AW_in 933 (by decide +kernel) rfl
  | 30, _ => AW_in 935 (by decide +kernel) rfl
  | 31, _ => AW_in 937 (by decide +kernel) rfl
  | 32, _ => AW_in 939 (by decide +kernel) rfl
  | 33, _ => AW_in 941 (by decide +kernel) rfl
  | k + 34, h => absurd h (by omega)
theorem lay_in {C : String} {T : u_T} {N : Nat} (h : ∀ k, k < N → u_lay C T k ∈ AW) : ∀ w ∈ u_ws C T N, w ∈ AW := fun w hw => by
  obtain ⟨k, hk, rfl⟩ := List.mem_map.mp hw
  exact h k (List.mem_range.mp hk)
/-- each class's words and field types, by its place -/
def clsOk (ci : Nat) (C : String) (T : u_T) (N : Nat) : Prop := cls7[ci]? = some (C, T, N) ∧ (∀ w ∈ u_ws C T N, w ∈ AW) ∧ ∃ ty : Nat → FieldType, (∀ k, k < N → parseFieldDescriptor (T k).2.2.1 = some (ty k)) ∧ (∀ a, a < N → ∀ b, b < N → a ≠ b → (T a).2.1 ≠ (T b).2.1)
theorem ok0 : clsOk 0 RX0 TX0 9 := ⟨rfl, lay_in layX0, tyX0, tyX0_ok, nmX0⟩
theorem ok1 : clsOk 1 RX1 TX1 3 := ⟨rfl, lay_in layX1, tyX1, tyX1_ok, nmX1⟩
theorem ok2 : clsOk 2 RX2 TX2 8 := ⟨rfl, lay_in layX2, tyX2, tyX2_ok, nmX2⟩
theorem ok3 : clsOk 3 RX3 TX3 9 := ⟨rfl, lay_in layX3, tyX3, tyX3_ok, nmX3⟩
theorem ok4 : clsOk 4 RX4 TX4 13 := ⟨rfl, lay_in layX4, tyX4, tyX4_ok, nmX4⟩
theorem ok5 : clsOk 5 RX5 TX5 7 := ⟨rfl, lay_in layX5, tyX5, tyX5_ok, nmX5⟩
theorem ok6 : clsOk 6 RX6 TX6 34 := ⟨rfl, lay_in layX6, tyX6, tyX6_ok, nmX6⟩
abbrev Sg : Type := (Nat → Nat → Int32) × (Nat → Nat → Int64) × (Nat → Nat → UInt64)
def rI (σ : Sg) (i j : Nat) : Int32 := σ.1 i j
def rL (σ : Sg) (i j : Nat) : Int64 := σ.2.1 i j
def rD (σ : Sg) (i j : Nat) : UInt64 := σ.2.2 i j
def sA (σ : Sg) (i : Nat) (f : Nat → Int32) : Sg := (fun i' => if i' = i then f else σ.1 i', σ.2)
def sI (σ : Sg) (i j : Nat) (x : Int32) : Sg := (fun i' => if i' = i then upd (σ.1 i) j x else σ.1 i', σ.2)
def sL (σ : Sg) (i j : Nat) (x : Int64) : Sg := (σ.1, fun i' => if i' = i then vp_updL (σ.2.1 i) j x else σ.2.1 i', σ.2.2)
def sD (σ : Sg) (i j : Nat) (x : UInt64) : Sg := (σ.1, σ.2.1, fun i' => if i' = i then vf_upd (σ.2.2 i) j x else σ.2.2 i')
abbrev sid (r : Nat) : Nat := 33 + 6 * r
def nf (ci : Nat) : Nat := [9, 3, 8, 9, 13, 7, 34].getD ci 0
def sk (ci k : Nat) : Nat := ([[2, 1, 1, 1, 1, 1, 1, 1, 1], [2, 2, 0], [2, 2, 2, 2, 2, 0, 0, 0], [2, 2, 2, 2, 2, 0, 0, 0, 0], [2, 2, 2, 2, 2, 0, 0, 0, 0, 0, 0, 0, 0], [2, 2, 2, 2, 2, 0, 0], [2, 2, 2, 2, 0, 2, 2, 2, 0, 2, 0, 0, 0, 0, 2, 2, 0, 0, 0, 0, 0, 0, 2, 1, 1, 1, 1, 1, 1, 0, 0, 0, 0, 0]].getD ci []).getD k 0
def kd (i : Nat) : Nat := if i < 33 then [5, 3, 7, 7, 7, 12, 7, 7, 7, 7, 1, 7, 7, 2, 11, 7, 7, 0, 7, 6, 7, 7, 7, 7, 7, 7, 7, 7, 7, 8, 7, 9, 10].getD i 0 else if (i - 33) % 6 = 0 then 4 else 7
def ln (i : Nat) : Nat := if i < 33 then [0, 0, 4, 4, 3, 3, 48, 48, 48, 48, 0, 6, 6, 0, 7, 6, 6, 0, 3, 0, 15, 15, 4, 4, 3, 144, 3, 48, 6, 6, 3, 1, 1].getD i 0 else [0, 4, 4, 4, 3, 3].getD ((i - 33) % 6) 0
def tg (i j : Nat) : Nat := if i < 33 then ([[1, 33, 10, 13, 17], [2, 3, 4, 5, 9], [], [], [], [], [], [], [], [], [11, 12], [], [], [1, 10, 14, 15, 16], [], [], [], [18], [], [20, 21, 22, 23, 0, 24, 25, 26, 0, 27, 0, 0, 0, 0, 28, 29, 0, 0, 0, 0, 0, 0, 30], [], [], [], [], [], [], [], [], [], [], [], [], []].getD i []).getD j 0 else i + 1 + j
def ta (i j : Nat) : Nat := if i = 5 then 6 + j else sid (j + 1)
def encS (ad : Nat → Nat) (σ : Sg) (i j k : Nat) : Value := if k = 0 then .int (rI σ i j) else if k = 1 then .long (rL σ i j) else .ref (ad (tg i j))
def encO (ad : Nat → Nat) (σ : Sg) (i : Nat) : List Value := (List.range (nf (kd i))).map (fun j => encS ad σ i j (sk (kd i) j))
def enc (ad : Nat → Nat) (cy : Nat → ClassId) (σ : Sg) (i : Nat) : va_E :=
  if kd i < 7 then .inr (kd i, encO ad σ i)
  else if kd i < 9 then .inl (cy (kd i), ln i, .inl (σ.1 i))
  else if kd i = 9 then .inl (cy (kd i), ln i, .inr (.inl (σ.2.1 i)))
  else if kd i = 10 then .inl (cy (kd i), ln i, .inr (.inr (.inr (.inl (σ.2.2 i)))))
  else .inl (cy (kd i), ln i, .inr (.inr (.inr (.inr (fun j => if j < ln i then some (ad (ta i j)) else none)))))
def WD (ad : Nat → Nat) (cy : Nat → ClassId) (σ : Sg) : va_W := (List.range 81).map (fun i => (ad i, enc ad cy σ i))
def tysOf (cy : Nat → ClassId) : List (ClassId × FieldType) := [(cy 7, .int), (cy 8, .boolean), (cy 9, .long), (cy 10, .double), (cy 11, .object RX4), (cy 12, .array .int)]
theorem WD_get {ad : Nat → Nat} {cy : Nat → ClassId} {σ : Sg} {i : Nat} (h : i < 81) : (WD ad cy σ)[i]? = some (ad i, enc ad cy σ i) := by
  unfold WD
  rw [List.getElem?_map, List.getElem?_range h]
  rfl
theorem encO_get {ad : Nat → Nat} {σ : Sg} {i j : Nat} (h : j < nf (kd i)) : (encO ad σ i)[j]? = some (encS ad σ i j (sk (kd i) j)) := by
  unfold encO
  rw [List.getElem?_map, List.getElem?_range h]
  rfl
theorem WD_len {ad : Nat → Nat} {cy : Nat → ClassId} {σ : Sg} : (WD ad cy σ).length = 81 := by unfold WD; rw [List.length_map, List.length_range]
/-- one cell of the world changed -/
theorem WD_set {ad : Nat → Nat} {cy : Nat → ClassId} {σ σ' : Sg} {i : Nat} {e : va_E} (he : enc ad cy σ' i = e) (hn : ∀ k, k ≠ i → enc ad cy σ' k = enc ad cy σ k) : (WD ad cy σ).set i (ad i, e) = WD ad cy σ' := by
  apply List.ext_getElem?
  intro k
  by_cases hk : k < 81
  · by_cases h : k = i
    · subst h
      rw [List.getElem?_set_self (by rw [WD_len]; exact hk), WD_get hk, he]
    · rw [List.getElem?_set_ne (Ne.symm h), WD_get hk, WD_get hk, hn k h]
  · rw [List.getElem?_eq_none (by rw [List.length_set, WD_len]; omega), List.getElem?_eq_none (by rw [WD_len]; omega)]
theorem encO_set {ad : Nat → Nat} {σ σ' : Sg} {i k : Nat} {v : Value} (hk : encS ad σ' i k (sk (kd i) k) = v) (hn : ∀ j, j ≠ k → encS ad σ' i j (sk (kd i) j) = encS ad σ i j (sk (kd i) j)) : (encO ad σ i).set k v = encO ad σ' i := by
  apply List.ext_getElem?
  intro j
  have hl : (encO ad σ i).length = nf (kd i) := by unfold encO; rw [List.length_map, List.length_range]
  have hl' : (encO ad σ' i).length = nf (kd i) := by unfold encO; rw [List.length_map, List.length_range]
  by_cases hj : j < nf (kd i)
  · by_cases h : j = k
    · subst h
      rw [List.getElem?_set_self (by rw [hl]; exact hj), encO_get hj, hk]
    · rw [List.getElem?_set_ne (Ne.symm h), encO_get hj, encO_get hj, hn j h]
  · rw [List.getElem?_eq_none (by rw [List.length_set, hl]; omega), List.getElem?_eq_none (by rw [hl']; omega)]
theorem rI_sI (σ : Sg) (i j i' j' : Nat) (x : Int32) : rI (sI σ i j x) i' j' = if i' = i ∧ j' = j then x else rI σ i' j' := by
  unfold rI sI
  by_cases h : i' = i
  · subst h
    by_cases h2 : j' = j
    · subst h2; simp [upd]
    · simp [upd, h2]
  · simp [h]
theorem rL_sL (σ : Sg) (i j i' j' : Nat) (x : Int64) : rL (sL σ i j x) i' j' = if i' = i ∧ j' = j then x else rL σ i' j' := by
  unfold rL sL
  by_cases h : i' = i
  · subst h
    by_cases h2 : j' = j
    · subst h2; simp [vp_updL]
    · simp [vp_updL, h2]
  · simp [h]
theorem rD_sD (σ : Sg) (i j i' j' : Nat) (x : UInt64) : rD (sD σ i j x) i' j' = if i' = i ∧ j' = j then x else rD σ i' j' := by
  unfold rD sD
  by_cases h : i' = i
  · subst h
    by_cases h2 : j' = j
    · subst h2; simp [vf_upd]
    · simp [vf_upd, h2]
  · simp [h]
theorem rI_sA (σ : Sg) (i i' j' : Nat) (f : Nat → Int32) : rI (sA σ i f) i' j' = if i' = i then f j' else rI σ i' j' := by
  unfold rI sA
  by_cases h : i' = i <;> simp [h]
theorem rI_sL (σ : Sg) (i j i' j' : Nat) (x : Int64) : rI (sL σ i j x) i' j' = rI σ i' j' := rfl
theorem rI_sD (σ : Sg) (i j i' j' : Nat) (x : UInt64) : rI (sD σ i j x) i' j' = rI σ i' j' := rfl
theorem rL_sI (σ : Sg) (i j i' j' : Nat) (x : Int32) : rL (sI σ i j x) i' j' = rL σ i' j' := rfl
theorem rL_sA (σ : Sg) (i i' j' : Nat) (f : Nat → Int32) : rL (sA σ i f) i' j' = rL σ i' j' := rfl
theorem rL_sD (σ : Sg) (i j i' j' : Nat) (x : UInt64) : rL (sD σ i j x) i' j' = rL σ i' j' := rfl
theorem rD_sI (σ : Sg) (i j i' j' : Nat) (x : Int32) : rD (sI σ i j x) i' j' = rD σ i' j' := rfl
theorem rD_sL (σ : Sg) (i j i' j' : Nat) (x : Int64) : rD (sL σ i j x) i' j' = rD σ i' j' := rfl
theorem rD_sA (σ : Sg) (i i' j' : Nat) (f : Nat → Int32) : rD (sA σ i f) i' j' = rD σ i' j' := rfl
theorem encS_ne {ad : Nat → Nat} {σ σ' : Sg} {i j k : Nat} (h1 : rI σ' i j = rI σ i j) (h2 : rL σ' i j = rL σ i j) : encS ad σ' i j k = encS ad σ i j k := by unfold encS; rw [h1, h2]
theorem enc_ne {ad : Nat → Nat} {cy : Nat → ClassId} {σ σ' : Sg} {i : Nat} (h1 : σ'.1 i = σ.1 i) (h2 : σ'.2.1 i = σ.2.1 i) (h3 : σ'.2.2 i = σ.2.2 i) : enc ad cy σ' i = enc ad cy σ i := by
  have h : encO ad σ' i = encO ad σ i := by
    unfold encO
    apply List.map_congr_left
    intro j _
    exact encS_ne (congrFun h1 j) (congrFun h2 j)
  unfold enc
  rw [h, h1, h2, h3]
theorem WD_sI {ad : Nat → Nat} {cy : Nat → ClassId} {σ : Sg} {i k ci : Nat} {v : Int32} (hk : kd i = ci) (hc : ci < 7) (hs : sk ci k = 0) : (WD ad cy σ).set i (ad i, .inr (ci, (encO ad σ i).set k (.int v))) = WD ad cy (sI σ i k v) := by
  subst hk
  refine WD_set ?_ (fun j hj => enc_ne (by simp [sI, hj]) rfl rfl)
  unfold enc
  rw [if_pos hc, encO_set (σ' := sI σ i k v)]
  · unfold encS; rw [if_pos hs, rI_sI, if_pos ⟨rfl, rfl⟩]
  · intro j hj
    exact encS_ne (by rw [rI_sI, if_neg (fun h => hj h.2)]) rfl
theorem WD_sL {ad : Nat → Nat} {cy : Nat → ClassId} {σ : Sg} {i k ci : Nat} {v : Int64} (hk : kd i = ci) (hc : ci < 7) (hs : sk ci k = 1) : (WD ad cy σ).set i (ad i, .inr (ci, (encO ad σ i).set k (.long v))) = WD ad cy (sL σ i k v) := by
  subst hk
  refine WD_set ?_ (fun j hj => enc_ne rfl (by simp [sL, hj]) rfl)
  unfold enc
  rw [if_pos hc, encO_set (σ' := sL σ i k v)]
  · unfold encS; rw [hs, if_neg (by decide), if_pos rfl, rL_sL, if_pos ⟨rfl, rfl⟩]
  · intro j hj
    exact encS_ne rfl (by rw [rL_sL, if_neg (fun h => hj h.2)])
theorem WD_sA {ad : Nat → Nat} {cy : Nat → ClassId} {σ : Sg} {i ci n : Nat} {f : Nat → Int32} (hk : kd i = ci) (hc : ci = 7 ∨ ci = 8) (hn : ln i = n) : (WD ad cy σ).set i (ad i, .inl (cy ci, n, .inl f)) = WD ad cy (sA σ i f) := by
  subst hk; subst hn
  refine WD_set ?_ (fun j hj => enc_ne (by simp [sA, hj]) rfl rfl)
  unfold enc
  rw [if_neg (by omega), if_pos (by omega)]
  simp [sA]
theorem WD_sIa {ad : Nat → Nat} {cy : Nat → ClassId} {σ : Sg} {i ci n k : Nat} {v : Int32} (hk : kd i = ci) (hc : ci = 7 ∨ ci = 8) (hn : ln i = n) : (WD ad cy σ).set i (ad i, .inl (cy ci, n, .inl (upd (σ.1 i) k v))) = WD ad cy (sI σ i k v) := by
  rw [WD_sA hk hc hn]
  rfl
theorem WD_sLa {ad : Nat → Nat} {cy : Nat → ClassId} {σ : Sg} {i n k : Nat} {v : Int64} (hk : kd i = 9) (hn : ln i = n) : (WD ad cy σ).set i (ad i, .inl (cy 9, n, .inr (.inl (vp_updL (σ.2.1 i) k v)))) = WD ad cy (sL σ i k v) := by
  subst hn
  refine WD_set ?_ (fun j hj => enc_ne rfl (by simp [sL, hj]) rfl)
  unfold enc
  rw [hk, if_neg (by decide), if_neg (by decide), if_pos rfl]
  simp [sL]
theorem WD_sDa {ad : Nat → Nat} {cy : Nat → ClassId} {σ : Sg} {i n k : Nat} {v : UInt64} (hk : kd i = 10) (hn : ln i = n) : (WD ad cy σ).set i (ad i, .inl (cy 10, n, .inr (.inr (.inr (.inl (vf_upd (σ.2.2 i) k v)))))) = WD ad cy (sD σ i k v) := by
  subst hn
  refine WD_set ?_ (fun j hj => enc_ne rfl rfl (by simp [sD, hj]))
  unfold enc
  rw [hk, if_neg (by decide), if_neg (by decide), if_neg (by decide), if_pos rfl]
  simp [sD]
theorem enc_obj {ad : Nat → Nat} {cy : Nat → ClassId} {σ : Sg} {i ci : Nat} (hk : kd i = ci) (hc : ci < 7) : enc ad cy σ i = .inr (ci, encO ad σ i) := by
  subst hk; unfold enc; rw [if_pos hc]
theorem enc_ia {ad : Nat → Nat} {cy : Nat → ClassId} {σ : Sg} {i ci n : Nat} (hk : kd i = ci) (hc : ci = 7 ∨ ci = 8) (hn : ln i = n) : enc ad cy σ i = .inl (cy ci, n, .inl (σ.1 i)) := by
  subst hk; subst hn; unfold enc; rw [if_neg (by omega), if_pos (by omega)]
theorem enc_la {ad : Nat → Nat} {cy : Nat → ClassId} {σ : Sg} {i n : Nat} (hk : kd i = 9) (hn : ln i = n) : enc ad cy σ i = .inl (cy 9, n, .inr (.inl (σ.2.1 i))) := by
  subst hn; unfold enc; rw [hk, if_neg (by decide), if_neg (by decide), if_pos rfl]
theorem enc_da {ad : Nat → Nat} {cy : Nat → ClassId} {σ : Sg} {i n : Nat} (hk : kd i = 10) (hn : ln i = n) : enc ad cy σ i = .inl (cy 10, n, .inr (.inr (.inr (.inl (σ.2.2 i))))) := by
  subst hn; unfold enc; rw [hk, if_neg (by decide), if_neg (by decide), if_neg (by decide), if_pos rfl]
theorem enc_ra {ad : Nat → Nat} {cy : Nat → ClassId} {σ : Sg} {i ci n : Nat} (hk : kd i = ci) (hc : 10 < ci) (hn : ln i = n) : enc ad cy σ i = .inl (cy ci, n, .inr (.inr (.inr (.inr (fun j => if j < n then some (ad (ta i j)) else none))))) := by
  subst hn; subst hk; unfold enc; rw [if_neg (by omega), if_neg (by omega), if_neg (by omega), if_neg (by omega)]
theorem sid_m (r c : Nat) (hc : c < 6) : (sid r + c - 33) % 6 = c := by unfold sid; omega
theorem kd_s0 (r : Nat) : kd (sid r) = 4 := by unfold kd; rw [if_neg (by unfold sid; omega), if_pos (by unfold sid; omega)]
theorem kd_sc (r c : Nat) (h0 : 0 < c) (hc : c < 6) : kd (sid r + c) = 7 := by unfold kd; rw [if_neg (by unfold sid; omega), sid_m r c hc, if_neg (by omega)]
theorem ln_sc (r c : Nat) (hc : c < 6) : ln (sid r + c) = [0, 4, 4, 4, 3, 3].getD c 0 := by unfold ln; rw [if_neg (by unfold sid; omega), sid_m r c hc]
theorem tg_s (r j : Nat) : tg (sid r) j = sid r + (1 + j) := by unfold tg; rw [if_neg (by unfold sid; omega)]; omega
theorem sid_lt {r c : Nat} (hr : r < 8) (hc : c < 6) : sid r + c < 81 := by unfold sid; omega
theorem sid_lt0 {r : Nat} (hr : r < 8) : sid r < 81 := by unfold sid; omega
end
section
def kwd : Cond → Bool
  | .declares _ => true
  | .castable _ _ => true
  | .methodLinkNest _ _ _ _ => true
  | _ => false
def KW : List Cond := lw_tbl.filter kwd
theorem KW_in {w : Cond} (i : Nat) (h : lw_tbl[i]? = some w) (g : kwd w = true) : w ∈ KW := List.mem_filter.mpr ⟨List.mem_of_getElem? h, g⟩
theorem k376 : Cond.castable "java/lang/IllegalArgumentException" "java/lang/IllegalArgumentException" ∈ KW := KW_in 403 (by decide +kernel) rfl
theorem k448 : Cond.castable "java/lang/IllegalStateException" "java/lang/IllegalStateException" ∈ KW := KW_in 475 (by decide +kernel) rfl
theorem k499 : Cond.castable "java/lang/IndexOutOfBoundsException" "java/lang/IndexOutOfBoundsException" ∈ KW := KW_in 526 (by decide +kernel) rfl
theorem k539 : Cond.castable "java/lang/UnsupportedOperationException" "java/lang/UnsupportedOperationException" ∈ KW := KW_in 566 (by decide +kernel) rfl
theorem k722 : Cond.castable "java/util/NoSuchElementException" "java/util/NoSuchElementException" ∈ KW := KW_in 749 (by decide +kernel) rfl
theorem k791 : Cond.castable "java/lang/ArithmeticException" "java/lang/ArithmeticException" ∈ KW := KW_in 818 (by decide +kernel) rfl
theorem k84 : (Jvm.Cond.methodLinkNest "MembranePlant" (18 : Nat) ({ cls := "MembranePlant$State", name := "<init>", desc := "()V" } : Jvm.MethodName) "MembranePlant") ∈ KW := KW_in 111 (by decide +kernel) rfl
theorem k145 : (Jvm.Cond.methodLinkNest "MembranePlant" (25 : Nat) ({ cls := "MembranePlant$Orders", name := "<init>", desc := "()V" } : Jvm.MethodName) "MembranePlant") ∈ KW := KW_in 172 (by decide +kernel) rfl
theorem k168 : (Jvm.Cond.methodLinkNest "MembranePlant$Planner" (32 : Nat) ({ cls := "MembranePlant$State", name := "<init>", desc := "()V" } : Jvm.MethodName) "MembranePlant") ∈ KW := KW_in 195 (by decide +kernel) rfl
theorem k198 : (Jvm.Cond.methodLinkNest "MembranePlant" (41 : Nat) ({ cls := "MembranePlant$Meters", name := "<init>", desc := "()V" } : Jvm.MethodName) "MembranePlant") ∈ KW := KW_in 225 (by decide +kernel) rfl
theorem k673 : (Jvm.Cond.methodLinkNest "MembranePlant$Planner" (52 : Nat) ({ cls := "MembranePlant", name := "slotOf", desc := "(I)I" } : Jvm.MethodName) "MembranePlant") ∈ KW := KW_in 700 (by decide +kernel) rfl
def SRL : List (Nat × String) := [(243, "out of range"), (62, "there are 4 trains"), (247, "no such train"), (249, "the train is being cleaned"), (95, "too little water in the tank 0"), (122, "there are 3 tanks"), (251, "no such tank"), (174, "the half hour has passed"), (180, "there are 6 orders"), (187, "the half hour has no order"), (245, "no schedule is allowed"), (209, "no such half hour in the schedule"), (238, "nothing was demanded"), (241, "no half hour has passed")]
def NCL : List (String × String) := [("java/lang/IllegalStateException", "java/lang/IllegalArgumentException"), ("java/lang/IndexOutOfBoundsException", "java/lang/IllegalArgumentException"), ("java/lang/UnsupportedOperationException", "java/lang/IllegalArgumentException"), ("java/util/NoSuchElementException", "java/lang/IllegalArgumentException"), ("java/lang/ArithmeticException", "java/lang/IllegalArgumentException"), ("java/lang/IllegalArgumentException", "java/lang/IllegalStateException"), ("java/lang/IndexOutOfBoundsException", "java/lang/IllegalStateException"), ("java/lang/UnsupportedOperationException", "java/lang/IllegalStateException"), ("java/util/NoSuchElementException", "java/lang/IllegalStateException"), ("java/lang/ArithmeticException", "java/lang/IllegalStateException"), ("java/lang/IllegalArgumentException", "java/lang/IndexOutOfBoundsException"), ("java/lang/IllegalStateException", "java/lang/IndexOutOfBoundsException"), ("java/lang/UnsupportedOperationException", "java/lang/IndexOutOfBoundsException"), ("java/util/NoSuchElementException", "java/lang/IndexOutOfBoundsException"), ("java/lang/ArithmeticException", "java/lang/IndexOutOfBoundsException"), ("java/lang/IllegalArgumentException", "java/lang/UnsupportedOperationException"), ("java/lang/IllegalStateException", "java/lang/UnsupportedOperationException"), ("java/lang/IndexOutOfBoundsException", "java/lang/UnsupportedOperationException"), ("java/util/NoSuchElementException", "java/lang/UnsupportedOperationException"), ("java/lang/ArithmeticException", "java/lang/UnsupportedOperationException"), ("java/lang/IllegalArgumentException", "java/util/NoSuchElementException"), ("java/lang/IllegalStateException", "java/util/NoSuchElementException"), ("java/lang/IndexOutOfBoundsException", "java/util/NoSuchElementException"), ("java/lang/UnsupportedOperationException", "java/util/NoSuchElementException"), ("java/lang/ArithmeticException", "java/util/NoSuchElementException"), ("java/lang/IllegalArgumentException", "java/lang/ArithmeticException"), ("java/lang/IllegalStateException", "java/lang/ArithmeticException"), ("java/lang/IndexOutOfBoundsException", "java/lang/ArithmeticException"), ("java/lang/UnsupportedOperationException", "java/lang/ArithmeticException"), ("java/util/NoSuchElementException", "java/lang/ArithmeticException")]
/-- facts of the tables (beside the good words) that stay as they are: of castings, strings, names -/
def XF (s : State) : Prop := (∀ w ∈ KW, w.before #[] s = true) ∧ (∀ q ∈ SRL, ∃ a, vk_R RX5 q.1 q.2 a s) ∧ (∀ q ∈ NCL, va_Nc q.1 q.2 s)
theorem XF.warm {s U : State} (hW : s.WarmedH U.vm) (h : XF s) : XF U := by
  refine ⟨fun w hw => ?_, fun q hq => ?_, fun q hq => (h.2.2 q hq).moved hW.alike⟩
  · have h1 := h.1 w hw
    have h2 := (List.mem_filter.mp hw).2
    cases w <;> first | exact absurd (show false = true from h2) Bool.false_ne_true | exact va_Nw.warmD hW h1 | exact va_Nw.warmC hW h1 | exact va_Nw.warmM hW h1
  · obtain ⟨a, ha⟩ := h.2.1 q hq
    exact ⟨a, ha.warm hW⟩
def ZF (ba : Nat) (s : State) : Prop := vx_Zq Bundle.tN "UNASSIGNED_STACK" Bundle.steD (fun q => ba ≤ q) s s.heap ∧ vx_Zq Bundle.tN "SUPPRESSED_SENTINEL" Bundle.listD (fun q => ba ≤ q) s s.heap
/-- what holds at a method's start beside the world: the classes, the addresses, the facts above -/
def Fx (D : va_G) (ad : Nat → Nat) (cy : Nat → ClassId) (ba : Nat) (s : State) : Prop :=
  va_K D cls7 (tysOf cy) s ∧ ((∀ i j, i < 81 → j < 81 → ad i = ad j → i = j) ∧ ∀ i, i < 81 → ba ≤ ad i) ∧ ba ≤ s.heap.size ∧ XF s ∧ ZF ba s
def Wo (D : va_G) (ad : Nat → Nat) (cy : Nat → ClassId) (ba : Nat) (s : State) (σ : Sg) (H : Heap) (locs : List Loc) : Prop := va_P D cls7 (WD ad cy σ) H ∧ va_S (fun q => ba ≤ q) s.heap H locs
theorem Fx.D {D : va_G} {ad : Nat → Nat} {cy : Nat → ClassId} {ba : Nat} {s : State} {σ : Sg} (h : Fx D ad cy ba s) : va_D (fun q => ba ≤ q) (WD ad cy σ) := by
  have key : ∀ (i : Nat) (p : Nat × va_E), (WD ad cy σ)[i]? = some p → i < 81 ∧ p.1 = ad i := by
    intro i p hp
    have hl : i < 81 := by
      have := (List.getElem?_eq_some_iff.mp hp).1
      rwa [WD_len] at this
    rw [WD_get hl] at hp
    cases hp
    exact ⟨hl, rfl⟩
  refine ⟨fun i j p q hp hq e => ?_, fun k q hq => ?_⟩
  · obtain ⟨h1, h2⟩ := key i p hp
    obtain ⟨h3, h4⟩ := key j q hq
    exact h.2.1.1 i j h1 h3 (by rw [← h2, ← h4, e])
  · obtain ⟨h1, h2⟩ := key k q hq
    show ba ≤ q.1
    rw [h2]
    exact h.2.1.2 k h1
theorem Fx.call {D : va_G} {ad : Nat → Nat} {cy : Nat → ClassId} {ba : Nat} {s U : State} {H : Heap} {locs : List Loc} (h : Fx D ad cy ba s) (hS : va_S (fun q => ba ≤ q) s.heap H locs) (hU : U.heap = H) (hW : s.WarmedH U.vm) : Fx D ad cy ba U := by
  obtain ⟨h1, h2, h3, h4, h5, h6⟩ := h
  refine ⟨va_K.moved hW.alike h1, h2, ?_, h4.warm hW, ?_, ?_⟩
  · rw [hU]; exact Nat.le_trans h3 hS.1
  · rw [hU]; exact vx_Zq.moved hW.alike (h5.kept hS.2.1)
  · rw [hU]; exact vx_Zq.moved hW.alike (h6.kept hS.2.1)
theorem Fx.blind {D : va_G} {ad : Nat → Nat} {cy : Nat → ClassId} {ba : Nat} {U : State} (g : JFrame) (mk : MethodId) (a : Array Value) (h : Fx D ad cy ba U) : Fx D ad cy ba (U.calling g mk a) := Fx.call (H := U.heap) (locs := []) h va_S.rf rfl (State.WarmedH.refl U)
def PcW (D : va_G) (ad : Nat → Nat) (cy : Nat → ClassId) (ba : Nat) (av : List Value) (σ : Sg) : Array Value → State → Prop := va_Pc av (fun U => Fx D ad cy ba U ∧ va_P D cls7 (WD ad cy σ) U.heap)
theorem PcW_blind {D : va_G} {ad : Nat → Nat} {cy : Nat → ClassId} {ba : Nat} {av : List Value} {σ : Sg} : FrameBlind (PcW D ad cy ba av σ) := fun a U g mk h => ⟨h.1, h.2.1.blind g mk a, h.2.2⟩
theorem PcW_at {D : va_G} {ad : Nat → Nat} {cy : Nat → ClassId} {ba : Nat} {av : List Value} {σ : Sg} {s : State} {H : Heap} {locs : List Loc} (F : Fx D ad cy ba s) (P : Wo D ad cy ba s σ H locs) : ∀ U : State, U.heap = H → s.WarmedH U.vm → PcW D ad cy ba av σ av.toArray U := fun U hU hW => ⟨rfl, F.call P.2 hU hW, by rw [hU]; exact P.1⟩
def rmK (d mc ms : Nat) : Room := { frames := 10 + d, cells := mc, slots := ms, locals := 200 + 40 * d }
def Qe (D : va_G) (ad : Nat → Nat) (cy : Nat → ClassId) (ba : Nat) (v : Option Value) (σ' : Sg) : Array Value → State → Outcome → State → Prop := fun _ st oc t => (oc = .returned v ∧ va_P D cls7 (WD ad cy σ') t.heap) ∧ va_F (fun q => ba ≤ q) st t
/-- A CONTRACT: from the world σ the method, called with av, answers v and leaves the world σ' -/
def Ct (D : va_G) (ad : Nat → Nat) (cy : Nat → ClassId) (ba : Nat) (l : Launch) (d : Nat) (y : MethodName) (cc : ByteArray) (n : Nat) (ret : Option FieldType) (av : List Value) (σ : Sg) (v : Option Value) (σ' : Sg) : Prop :=
  Met l y (ws_ y cc n ret) (rmK d 0 0) (PcW D ad cy ba av σ) (Qe D ad cy ba v σ') 0 0 (fun q => ba ≤ q)
def exN : Nat → String
  | 1 => "java/lang/IllegalArgumentException"
  | 2 => "java/lang/IllegalStateException"
  | 3 => "java/lang/IndexOutOfBoundsException"
  | 4 => "java/lang/UnsupportedOperationException"
  | 5 => "java/util/NoSuchElementException"
  | 6 => "java/lang/ArithmeticException"
  | _ => ""
def Qx (D : va_G) (ad : Nat → Nat) (cy : Nat → ClassId) (ba : Nat) (k : Nat) (v : Option Value) (σ' : Sg) : Array Value → State → Outcome → State → Prop := fun _ st oc t => (k = 0 ∧ oc = .returned v ∧ va_P D cls7 (WD ad cy σ') t.heap) ∧ va_F (fun q => ba ≤ q) st t
def Xx (D : va_G) (ad : Nat → Nat) (cy : Nat → ClassId) (ba : Nat) (k : Nat) (σ' : Sg) : String → State → State → Prop := fun E st t => (k ≠ 0 ∧ E = exN k ∧ va_P D cls7 (WD ad cy σ') t.heap) ∧ va_F (fun q => ba ≤ q) st t
/-- .. that may throw: k = 0 it answers v, else it throws exN k; at most nx things are thrown on the way -/
def Cx (D : va_G) (ad : Nat → Nat) (cy : Nat → ClassId) (ba : Nat) (l : Launch) (d nx : Nat) (y : MethodName) (cc : ByteArray) (n : Nat) (ret : Option FieldType) (av : List Value) (σ : Sg) (k : Nat) (v : Option Value) (σ' : Sg) : Prop :=
  vx_Met l y (ws_ y cc n ret) (rmK d nx (6 * nx)) (PcW D ad cy ba av σ) (Qx D ad cy ba k v σ') (Xx D ad cy ba k σ') nx (6 * nx) (fun q => ba ≤ q)
/-- .. of a method with a table of its own, that answers -/
def Cw (D : va_G) (ad : Nat → Nat) (cy : Nat → ClassId) (ba : Nat) (l : Launch) (d nx : Nat) (y : MethodName) (cc : ByteArray) (n : Nat) (ret : Option FieldType) (hh : List (Nat × Nat × Nat × Nat)) (av : List Value) (σ : Sg) (v : Option Value) (σ' : Sg) : Prop :=
  Met l y (Cond.codeWith y cc n ret hh :: AW) (rmK d nx (6 * nx)) (PcW D ad cy ba av σ) (Qe D ad cy ba v σ') nx (6 * nx) (fun q => ba ≤ q)
section
variable {D : va_G} {ad : Nat → Nat} {cy : Nat → ClassId} {ba : Nat}
theorem Ct.of {l : Launch} {d : Nat} {y : MethodName} {cc : ByteArray} {n : Nat} {ret : Option FieldType} {av : List Value} {σ : Sg} {v : Option Value} {σ' : Sg} (hy : plainName y.cls = true) (hn : (lg_sl av).length ≤ n)
    (body : ∀ (p : Program) (e : Env) (s : State) (m : MethodId) (below : List Frame) (meth : Method) (c : Code) (ls : Array Slot), CallFix p m c cc n s av.toArray AW y.cls → Fx D ad cy ba s → Wo D ad cy ba s σ s.heap [] → meth.sig.returnType = ret → meth.locks = false → lv_has ls n (lv_args 0 av) →
      W p l e (rmK d 0 0) s m av.toArray below meth c s.heap [] 0 0 (MQ below (Qe D ad cy ba v σ') av.toArray s 0 0 (fun q => ba ≤ q)) (F0 m 0 ls [])) : Ct D ad cy ba l d y cc n ret av σ v σ' := by
  refine Met.ofW (cc := cc) (maxL := n) (ret := ret) hy rfl ?_
  intro p e s m args below meth c s₁ B hml hv
  obtain ⟨rfl, F, P⟩ := hv
  have hts := atoms_spec (ws := ws_ y cc n ret) B.pre
  rw [lg_entry_eq]
  exact body p e s m below meth c _ ⟨B.exec, B.bytes, hml, findClass_of_methodNamed B.named, fun w h => hts w (List.mem_cons_of_mem _ h)⟩ F ⟨P, va_S.rf⟩ B.returns B.notSynchronized (lv_entry av hn)
theorem Cx.of {l : Launch} {d nx : Nat} {y : MethodName} {cc : ByteArray} {n : Nat} {ret : Option FieldType} {av : List Value} {σ : Sg} {k : Nat} {v : Option Value} {σ' : Sg} (hy : plainName y.cls = true) (hn : (lg_sl av).length ≤ n)
    (body : ∀ (p : Program) (e : Env) (s : State) (m : MethodId) (below : List Frame) (meth : Method) (c : Code) (ls : Array Slot), CallFix p m c cc n s av.toArray AW y.cls → Fx D ad cy ba s → Wo D ad cy ba s σ s.heap [] → meth.sig.returnType = ret → meth.locks = false → (∀ x ∈ c.exceptionTable.toList, False) → lv_has ls n (lv_args 0 av) →
      W p l e (rmK d nx (6 * nx)) s m av.toArray below meth c s.heap [] 0 0 (vx_MQ below (Qx D ad cy ba k v σ') (Xx D ad cy ba k σ') av.toArray s nx (6 * nx) (fun q => ba ≤ q)) (F0 m 0 ls [])) : Cx D ad cy ba l d nx y cc n ret av σ k v σ' := by
  refine vx_ofW (cc := cc) (maxL := n) (ret := ret) hy rfl ?_
  intro p e s m args below meth c s₁ B hml ht hv
  obtain ⟨rfl, F, P⟩ := hv
  have hts := atoms_spec (ws := ws_ y cc n ret) B.pre
  rw [lg_entry_eq]
  exact body p e s m below meth c _ ⟨B.exec, B.bytes, hml, findClass_of_methodNamed B.named, fun w h => hts w (List.mem_cons_of_mem _ h)⟩ F ⟨P, va_S.rf⟩ B.returns B.notSynchronized ht (lv_entry av hn)
end
end
section
/-! ROWS over the world: an instruction each -/
def sC (σ : Sg) (i0 i1 n : Nat) : Sg := sA σ i1 (va_cpy (σ.1 i0) (σ.1 i1) 0 0 n)
theorem rI_sC (σ : Sg) (i0 i1 n i' j' : Nat) : rI (sC σ i0 i1 n) i' j' = if i' = i1 then (if j' < n then rI σ i0 j' else rI σ i1 j') else rI σ i' j' := by
  unfold sC
  rw [rI_sA]
  by_cases h : i' = i1
  · rw [if_pos h, if_pos h]
    unfold va_cpy rI
    by_cases h2 : j' < n
    · rw [if_pos h2, if_pos (by omega), show 0 + (j' - 0) = j' by omega]
    · rw [if_neg h2, if_neg (by omega)]
  · rw [if_neg h, if_neg h]
theorem rL_sC (σ : Sg) (i0 i1 n i' j' : Nat) : rL (sC σ i0 i1 n) i' j' = rL σ i' j' := rfl
theorem rD_sC (σ : Sg) (i0 i1 n i' j' : Nat) : rD (sC σ i0 i1 n) i' j' = rD σ i' j' := rfl
section GROWS
variable {p : Program} {l : Launch} {e : Env} {R : Room} {s : State} {m : MethodId} {args : Array Value} {below : List Frame} {meth : Method} {c : Code} {H : Heap} {locs : List Loc} {cells slots : Nat} {Q : State → Prop}
variable {cc : ByteArray} {nL pc : Nat} {own : String} {ls : Array Slot} {rest : List Value} {D : va_G} {ad : Nat → Nat} {cy : Nat → ClassId} {ba : Nat} {σ : Sg}
theorem cls_lt {ci : Nat} {C : String} {T : u_T} {N : Nat} (o : clsOk ci C T N) : ci < 7 := (List.getElem?_eq_some_iff.mp o.1).1
theorem g_geti (B : CallFix p m c cc nL s args AW own) (F : Fx D ad cy ba s) (P : Wo D ad cy ba s σ H locs) {i ci k index N : Nat} {C : String} {T : u_T} (o : clsOk ci C T N) (hi : i < 81) (hk : kd i = ci) (hs : sk ci k = 0) (hN : nf ci = N) (hkN : k < N) (q : Cond.fieldLink own index (T k).1 (T k).2.1 (T k).2.2.1 ∈ AW) (d : decode cc pc = .ok (.getfield index, 3))
    (kk : W p l e R s m args below meth c H locs cells slots Q (F0 m (pc + 3) ls (.int (rI σ i k) :: rest))) : W p l e R s m args below meth c H locs cells slots Q (F0 m pc ls (.ref (ad i) :: rest)) := by
  obtain ⟨hx, hb, -, hown, hts⟩ := B
  exact va_get (D := D) (v := .int (rI σ i k)) hx hb hts o.2.1 hown F.1 P.1 i ((WD_get hi).trans (by rw [enc_obj hk (cls_lt o)])) o.1 k hkN (hts _ q) (fun _ h => h) (by rw [encO_get (by rw [hk, hN]; exact hkN), hk]; unfold encS; rw [if_pos hs]) d kk
theorem g_getl (B : CallFix p m c cc nL s args AW own) (F : Fx D ad cy ba s) (P : Wo D ad cy ba s σ H locs) {i ci k index N : Nat} {C : String} {T : u_T} (o : clsOk ci C T N) (hi : i < 81) (hk : kd i = ci) (hs : sk ci k = 1) (hN : nf ci = N) (hkN : k < N) (q : Cond.fieldLink own index (T k).1 (T k).2.1 (T k).2.2.1 ∈ AW) (d : decode cc pc = .ok (.getfield index, 3))
    (kk : W p l e R s m args below meth c H locs cells slots Q (F0 m (pc + 3) ls (.long (rL σ i k) :: rest))) : W p l e R s m args below meth c H locs cells slots Q (F0 m pc ls (.ref (ad i) :: rest)) := by
  obtain ⟨hx, hb, -, hown, hts⟩ := B
  exact va_get (D := D) (v := .long (rL σ i k)) hx hb hts o.2.1 hown F.1 P.1 i ((WD_get hi).trans (by rw [enc_obj hk (cls_lt o)])) o.1 k hkN (hts _ q) (fun _ h => h) (by rw [encO_get (by rw [hk, hN]; exact hkN), hk, hs]; rfl) d kk
theorem g_getr (B : CallFix p m c cc nL s args AW own) (F : Fx D ad cy ba s) (P : Wo D ad cy ba s σ H locs) {i ci k index N t : Nat} {C : String} {T : u_T} (o : clsOk ci C T N) (hi : i < 81) (hk : kd i = ci) (hs : sk ci k = 2) (hN : nf ci = N) (hkN : k < N) (ht : tg i k = t) (q : Cond.fieldLink own index (T k).1 (T k).2.1 (T k).2.2.1 ∈ AW) (d : decode cc pc = .ok (.getfield index, 3))
    (kk : W p l e R s m args below meth c H locs cells slots Q (F0 m (pc + 3) ls (.ref (ad t) :: rest))) : W p l e R s m args below meth c H locs cells slots Q (F0 m pc ls (.ref (ad i) :: rest)) := by
  obtain ⟨hx, hb, -, hown, hts⟩ := B
  subst ht
  exact va_get (D := D) (v := .ref (ad (tg i k))) hx hb hts o.2.1 hown F.1 P.1 i ((WD_get hi).trans (by rw [enc_obj hk (cls_lt o)])) o.1 k hkN (hts _ q) (fun _ h => h) (by rw [encO_get (by rw [hk, hN]; exact hkN), hk, hs]; rfl) d kk
theorem encO_len {i ci N : Nat} (hk : kd i = ci) (hN : nf ci = N) : (encO ad σ i).length = N := by
  subst hk; subst hN
  unfold encO
  rw [List.length_map, List.length_range]
theorem g_puti (B : CallFix p m c cc nL s args AW own) (F : Fx D ad cy ba s) (P : Wo D ad cy ba s σ H locs) {i ci k index N : Nat} {C : String} {T : u_T} {v : Int32} (o : clsOk ci C T N) (hi : i < 81) (hk : kd i = ci) (hs : sk ci k = 0) (hN : nf ci = N) (hkN : k < N) (hfin : (T k).2.2.2 = false) (hd : parseFieldDescriptor (T k).2.2.1 = some .int) (q : Cond.fieldLink own index (T k).1 (T k).2.1 (T k).2.2.1 ∈ AW) (d : decode cc pc = .ok (.putfield index, 3))
    (kk : ∀ (H : Heap) (locs : List Loc), Wo D ad cy ba s (sI σ i k v) H locs → W p l e R s m args below meth c H locs cells slots Q (F0 m (pc + 3) ls rest)) : W p l e R s m args below meth c H locs cells slots Q (F0 m pc ls (.int v :: .ref (ad i) :: rest)) := by
  obtain ⟨hx, hb, -, hown, hts⟩ := B
  obtain ⟨ty, hty, hnm⟩ := o.2.2
  refine va_put (D := D) (v := .int v) (ty := .int) hx hb hts o.2.1 ty hty hnm hown F.1 P.1 F.D P.2 i ((WD_get hi).trans (by rw [enc_obj hk (cls_lt o)])) o.1 k hkN (hts _ q) (fun _ h => h) hfin hd rfl rfl (by rw [encO_len hk hN]; exact hkN) d (fun H1 locs1 hP hD hS => ?_)
  rw [WD_sI hk (cls_lt o) hs] at hP
  exact kk H1 locs1 ⟨hP, hS⟩
theorem g_putl (B : CallFix p m c cc nL s args AW own) (F : Fx D ad cy ba s) (P : Wo D ad cy ba s σ H locs) {i ci k index N : Nat} {C : String} {T : u_T} {v : Int64} (o : clsOk ci C T N) (hi : i < 81) (hk : kd i = ci) (hs : sk ci k = 1) (hN : nf ci = N) (hkN : k < N) (hfin : (T k).2.2.2 = false) (hd : parseFieldDescriptor (T k).2.2.1 = some .long) (q : Cond.fieldLink own index (T k).1 (T k).2.1 (T k).2.2.1 ∈ AW) (d : decode cc pc = .ok (.putfield index, 3))
    (kk : ∀ (H : Heap) (locs : List Loc), Wo D ad cy ba s (sL σ i k v) H locs → W p l e R s m args below meth c H locs cells slots Q (F0 m (pc + 3) ls rest)) : W p l e R s m args below meth c H locs cells slots Q (F0 m pc ls (.long v :: .ref (ad i) :: rest)) := by
  obtain ⟨hx, hb, -, hown, hts⟩ := B
  obtain ⟨ty, hty, hnm⟩ := o.2.2
  refine va_put (D := D) (v := .long v) (ty := .long) hx hb hts o.2.1 ty hty hnm hown F.1 P.1 F.D P.2 i ((WD_get hi).trans (by rw [enc_obj hk (cls_lt o)])) o.1 k hkN (hts _ q) (fun _ h => h) hfin hd rfl rfl (by rw [encO_len hk hN]; exact hkN) d (fun H1 locs1 hP hD hS => ?_)
  rw [WD_sL hk (cls_lt o) hs] at hP
  exact kk H1 locs1 ⟨hP, hS⟩
theorem g_ild (B : CallFix p m c cc nL s args AW own) (F : Fx D ad cy ba s) (P : Wo D ad cy ba s σ H locs) {i n : Nat} {x : Int32} (hi : i < 81) (hk : kd i = 7) (hn : ln i = n) (hin : vp_in x n) (d : decode cc pc = .ok (.iaload, 1))
    (kk : W p l e R s m args below meth c H locs cells slots Q (F0 m (pc + 1) ls (.int (rI σ i x.toNatClampNeg) :: rest))) : W p l e R s m args below meth c H locs cells slots Q (F0 m pc ls (.int x :: .ref (ad i) :: rest)) := by
  obtain ⟨hx, hb, -, hown, hts⟩ := B
  exact va_iald (f := σ.1 i) hx hb F.1 P.1 i 0 ((WD_get hi).trans (by rw [enc_ia hk (Or.inl rfl) hn])) rfl hin d kk
theorem g_zld (B : CallFix p m c cc nL s args AW own) (F : Fx D ad cy ba s) (P : Wo D ad cy ba s σ H locs) {i n : Nat} {x : Int32} (hi : i < 81) (hk : kd i = 8) (hn : ln i = n) (hin : vp_in x n) (d : decode cc pc = .ok (.baload, 1))
    (kk : W p l e R s m args below meth c H locs cells slots Q (F0 m (pc + 1) ls (.int (rI σ i x.toNatClampNeg) :: rest))) : W p l e R s m args below meth c H locs cells slots Q (F0 m pc ls (.int x :: .ref (ad i) :: rest)) := by
  obtain ⟨hx, hb, -, hown, hts⟩ := B
  exact va_zald (f := σ.1 i) hx hb F.1 P.1 i 1 ((WD_get hi).trans (by rw [enc_ia hk (Or.inr rfl) hn])) rfl hin d kk
theorem g_lld (B : CallFix p m c cc nL s args AW own) (F : Fx D ad cy ba s) (P : Wo D ad cy ba s σ H locs) {i n : Nat} {x : Int32} (hi : i < 81) (hk : kd i = 9) (hn : ln i = n) (hin : vp_in x n) (d : decode cc pc = .ok (.laload, 1))
    (kk : W p l e R s m args below meth c H locs cells slots Q (F0 m (pc + 1) ls (.long (rL σ i x.toNatClampNeg) :: rest))) : W p l e R s m args below meth c H locs cells slots Q (F0 m pc ls (.int x :: .ref (ad i) :: rest)) := by
  obtain ⟨hx, hb, -, hown, hts⟩ := B
  exact va_lald (f := σ.2.1 i) hx hb F.1 P.1 i 2 ((WD_get hi).trans (by rw [enc_la hk hn])) rfl hin d kk
theorem g_dld (B : CallFix p m c cc nL s args AW own) (F : Fx D ad cy ba s) (P : Wo D ad cy ba s σ H locs) {i n : Nat} {x : Int32} (hi : i < 81) (hk : kd i = 10) (hn : ln i = n) (hin : vp_in x n) (d : decode cc pc = .ok (.daload, 1))
    (kk : W p l e R s m args below meth c H locs cells slots Q (F0 m (pc + 1) ls (.double (rD σ i x.toNatClampNeg) :: rest))) : W p l e R s m args below meth c H locs cells slots Q (F0 m pc ls (.int x :: .ref (ad i) :: rest)) := by
  obtain ⟨hx, hb, -, hown, hts⟩ := B
  exact va_dald (f := σ.2.2 i) hx hb F.1 P.1 i 3 ((WD_get hi).trans (by rw [enc_da hk hn])) rfl hin d kk
theorem g_ist (B : CallFix p m c cc nL s args AW own) (F : Fx D ad cy ba s) (P : Wo D ad cy ba s σ H locs) {i n : Nat} {x v : Int32} (hi : i < 81) (hk : kd i = 7) (hn : ln i = n) (hin : vp_in x n) (d : decode cc pc = .ok (.iastore, 1))
    (kk : ∀ (H : Heap) (locs : List Loc), Wo D ad cy ba s (sI σ i x.toNatClampNeg v) H locs → W p l e R s m args below meth c H locs cells slots Q (F0 m (pc + 1) ls rest)) : W p l e R s m args below meth c H locs cells slots Q (F0 m pc ls (.int v :: .int x :: .ref (ad i) :: rest)) := by
  obtain ⟨hx, hb, -, hown, hts⟩ := B
  refine va_iast hx hb F.1 P.1 F.D P.2 i 0 ((WD_get hi).trans (by rw [enc_ia hk (Or.inl rfl) hn])) rfl hin d (fun H1 locs1 hP hD hS => ?_)
  rw [WD_sIa hk (Or.inl rfl) hn] at hP
  exact kk H1 locs1 ⟨hP, hS⟩
theorem g_zst (B : CallFix p m c cc nL s args AW own) (F : Fx D ad cy ba s) (P : Wo D ad cy ba s σ H locs) {i n : Nat} {x v : Int32} (hi : i < 81) (hk : kd i = 8) (hn : ln i = n) (hin : vp_in x n) (hv : vp_nar .boolean v = v) (d : decode cc pc = .ok (.bastore, 1))
    (kk : ∀ (H : Heap) (locs : List Loc), Wo D ad cy ba s (sI σ i x.toNatClampNeg v) H locs → W p l e R s m args below meth c H locs cells slots Q (F0 m (pc + 1) ls rest)) : W p l e R s m args below meth c H locs cells slots Q (F0 m pc ls (.int v :: .int x :: .ref (ad i) :: rest)) := by
  obtain ⟨hx, hb, -, hown, hts⟩ := B
  refine va_zast hx hb F.1 P.1 F.D P.2 i 1 ((WD_get hi).trans (by rw [enc_ia hk (Or.inr rfl) hn])) rfl hin d (fun H1 locs1 hP hD hS => ?_)
  rw [hv, WD_sIa hk (Or.inr rfl) hn] at hP
  exact kk H1 locs1 ⟨hP, hS⟩
theorem g_lst (B : CallFix p m c cc nL s args AW own) (F : Fx D ad cy ba s) (P : Wo D ad cy ba s σ H locs) {i n : Nat} {x : Int32} {v : Int64} (hi : i < 81) (hk : kd i = 9) (hn : ln i = n) (hin : vp_in x n) (d : decode cc pc = .ok (.lastore, 1))
    (kk : ∀ (H : Heap) (locs : List Loc), Wo D ad cy ba s (sL σ i x.toNatClampNeg v) H locs → W p l e R s m args below meth c H locs cells slots Q (F0 m (pc + 1) ls rest)) : W p l e R s m args below meth c H locs cells slots Q (F0 m pc ls (.long v :: .int x :: .ref (ad i) :: rest)) := by
  obtain ⟨hx, hb, -, hown, hts⟩ := B
  refine va_last hx hb F.1 P.1 F.D P.2 i 2 ((WD_get hi).trans (by rw [enc_la hk hn])) rfl hin d (fun H1 locs1 hP hD hS => ?_)
  rw [WD_sLa hk hn] at hP
  exact kk H1 locs1 ⟨hP, hS⟩
theorem g_dst (B : CallFix p m c cc nL s args AW own) (F : Fx D ad cy ba s) (P : Wo D ad cy ba s σ H locs) {i n : Nat} {x : Int32} {v : UInt64} (hi : i < 81) (hk : kd i = 10) (hn : ln i = n) (hin : vp_in x n) (d : decode cc pc = .ok (.dastore, 1))
    (kk : ∀ (H : Heap) (locs : List Loc), Wo D ad cy ba s (sD σ i x.toNatClampNeg v) H locs → W p l e R s m args below meth c H locs cells slots Q (F0 m (pc + 1) ls rest)) : W p l e R s m args below meth c H locs cells slots Q (F0 m pc ls (.double v :: .int x :: .ref (ad i) :: rest)) := by
  obtain ⟨hx, hb, -, hown, hts⟩ := B
  refine va_dast hx hb F.1 P.1 F.D P.2 i 3 ((WD_get hi).trans (by rw [enc_da hk hn])) rfl hin d (fun H1 locs1 hP hD hS => ?_)
  rw [WD_sDa hk hn] at hP
  exact kk H1 locs1 ⟨hP, hS⟩
theorem g_rld (B : CallFix p m c cc nL s args AW own) (F : Fx D ad cy ba s) (P : Wo D ad cy ba s σ H locs) {i ci n t : Nat} {x : Int32} (hi : i < 81) (hk : kd i = ci) (hc : ci = 11 ∨ ci = 12) (hn : ln i = n) (hin : vp_in x n) (ht : ta i x.toNatClampNeg = t) (d : decode cc pc = .ok (.aaload, 1))
    (kk : W p l e R s m args below meth c H locs cells slots Q (F0 m (pc + 1) ls (.ref (ad t) :: rest))) : W p l e R s m args below meth c H locs cells slots Q (F0 m pc ls (.int x :: .ref (ad i) :: rest)) := by
  obtain ⟨hx, hb, -, hown, hts⟩ := B
  subst ht
  have hlt : x.toNatClampNeg < n := Nat.not_le.mp fun q => hin (Or.inr q)
  have he : (WD ad cy σ)[i]? = some (ad i, .inl (cy ci, n, .inr (.inr (.inr (.inr (fun j => if j < n then some (ad (ta i j)) else none)))))) := (WD_get hi).trans (by rw [enc_ra hk (by omega) hn])
  have hv : va_rf (if x.toNatClampNeg < n then some (ad (ta i x.toNatClampNeg)) else none) = .ref (ad (ta i x.toNatClampNeg)) := by rw [if_pos hlt]; rfl
  rw [← hv] at kk
  rcases hc with rfl | rfl
  · exact va_aldq hx hb F.1 P.1 i 4 he rfl hin d kk
  · exact W.aald (v := va_rf (if x.toNatClampNeg < n then some (ad (ta i x.toNatClampNeg)) else none)) (ty := .array .int) hx hb (P.1 i _ he) ((F.1.2 5 _ rfl).1 n (fun j => va_rf (if j < n then some (ad (ta i j)) else none))) rfl (fun q => by cases q) (by show ¬ (x < 0 ∨ (arrV _ _ _).slots.size ≤ _); rw [arrV_size]; exact hin) (by show (arrV _ _ _).slots[_]? = _; rw [arrV_read _ _ hlt]) rfl rfl d kk
theorem g_alen (B : CallFix p m c cc nL s args AW own) (F : Fx D ad cy ba s) (P : Wo D ad cy ba s σ H locs) {i n : Nat} {v : Int32} (hi : i < 81) (hk : kd i = 7) (hn : ln i = n) (hv : Int32.ofNat n = v) (d : decode cc pc = .ok (.arraylength, 1))
    (kk : W p l e R s m args below meth c H locs cells slots Q (F0 m (pc + 1) ls (.int v :: rest))) : W p l e R s m args below meth c H locs cells slots Q (F0 m pc ls (.ref (ad i) :: rest)) := by
  obtain ⟨hx, hb, -, hown, hts⟩ := B
  exact va_alen hx hb F.1 P.1 i 0 ((WD_get hi).trans (by rw [enc_ia hk (Or.inl rfl) hn])) rfl hv d kk
theorem g_copy (B : CallFix p m c cc nL s args AW own) (F : Fx D ad cy ba s) (P : Wo D ad cy ba s σ H locs) (hl : ls.size = nL) {i0 i1 n0 n1 n index : Nat} {x : Int32} (h0 : i0 < 81) (h1 : i1 < 81) (k0 : kd i0 = 7) (k1 : kd i1 = 7) (l0 : ln i0 = n0) (l1 : ln i1 = n1) (hx0 : ¬ x < 0) (hxn : x.toNatClampNeg = n) (b0 : n ≤ n0) (b1 : n ≤ n1)
    (q1 : Cond.methodLink own index arraycopyName ∈ AW) (q2 : Cond.native arraycopyName ∈ AW) (q3 : Cond.static arraycopyName ∈ AW) (q4 : Cond.initialized "java/lang/System" ∈ AW) (hframes : 1 ≤ R.frames) (hlocals : (rest.map fun v => v.category).sum + (nativeFrameWords "java/lang/System" "arraycopy" 5 + 11) ≤ R.locals) (d : decode cc pc = .ok (.invokestatic index, 3))
    (kk : ∀ (H : Heap) (locs : List Loc), Wo D ad cy ba s (sC σ i0 i1 n) H locs → W p l e R s m args below meth c H locs cells slots Q (F0 m (pc + 3) ls rest)) : W p l e R s m args below meth c H locs cells slots Q (F0 m pc ls (.int x :: .int 0 :: .ref (ad i1) :: .int 0 :: .ref (ad i0) :: rest)) := by
  obtain ⟨hx, hb, hml, hown, hts⟩ := B
  subst hxn
  refine va_copyi hx hb (hml.trans hl.symm) hown (hts _ q1) (hts _ q2) (hts _ q3) (hts _ q4) F.1 P.1 F.D P.2 i0 i1 0 0 ((WD_get h0).trans (by rw [enc_ia k0 (Or.inl rfl) l0])) ((WD_get h1).trans (by rw [enc_ia k1 (Or.inl rfl) l1])) rfl rfl rfl (by decide) (by decide) hx0 (by show 0 + _ ≤ _; omega) (by show 0 + _ ≤ _; omega) (fun _ _ => rfl) hframes hlocals d (fun H1 locs1 hP hD hS => ?_)
  rw [WD_sA k1 (Or.inl rfl) l1] at hP
  exact kk H1 locs1 ⟨hP, hS⟩
theorem g_min (B : CallFix p m c cc nL s args AW own) (hl : ls.size = nL) {index : Nat} {x y : Int32} (q1 : Cond.methodLink own index Lib.Math.min.name ∈ AW) (q2 : Cond.static Lib.Math.min.name ∈ AW) (q3 : Cond.initialized "java/lang/Math" ∈ AW) (q4 : Cond.code Lib.Math.min.name Lib.Math.min.code 2 (some .int) ∈ AW) (hframes : 1 ≤ R.frames) (hlocals : (rest.map fun v => v.category).sum + 13 ≤ R.locals) (hc : cells ≤ R.cells) (hs : slots ≤ R.slots) (d : decode cc pc = .ok (.invokestatic index, 3))
    (kk : W p l e R s m args below meth c H locs cells slots Q (F0 m (pc + 3) ls (.int (if y < x then y else x) :: rest))) : W p l e R s m args below meth c H locs cells slots Q (F0 m pc ls (.int y :: .int x :: rest)) := by
  obtain ⟨hx, hb, hml, hown, hts⟩ := B
  exact va_mmin hx hb (hml.trans hl.symm) hown (hts _ q1) (hts _ q2) (hts _ q3) (hts _ q4) hframes hlocals hc hs d kk
theorem g_max (B : CallFix p m c cc nL s args AW own) (hl : ls.size = nL) {index : Nat} {x y : Int32} (q1 : Cond.methodLink own index Lib.Math.max.name ∈ AW) (q2 : Cond.static Lib.Math.max.name ∈ AW) (q3 : Cond.initialized "java/lang/Math" ∈ AW) (q4 : Cond.code Lib.Math.max.name Lib.Math.max.code 2 (some .int) ∈ AW) (hframes : 1 ≤ R.frames) (hlocals : (rest.map fun v => v.category).sum + 13 ≤ R.locals) (hc : cells ≤ R.cells) (hs : slots ≤ R.slots) (d : decode cc pc = .ok (.invokestatic index, 3))
    (kk : W p l e R s m args below meth c H locs cells slots Q (F0 m (pc + 3) ls (.int (if x < y then y else x) :: rest))) : W p l e R s m args below meth c H locs cells slots Q (F0 m pc ls (.int y :: .int x :: rest)) := by
  obtain ⟨hx, hb, hml, hown, hts⟩ := B
  exact va_mmax hx hb (hml.trans hl.symm) hown (hts _ q1) (hts _ q2) (hts _ q3) (hts _ q4) hframes hlocals hc hs d kk
theorem g_ldc (B : CallFix p m c cc nL s args AW own) {index : Nat} {v : Int32} (q : Cond.constant own index v ∈ AW) (d : decode cc pc = .ok (.ldc index, 2)) (kk : W p l e R s m args below meth c H locs cells slots Q (F0 m (pc + 2) ls (.int v :: rest))) : W p l e R s m args below meth c H locs cells slots Q (F0 m pc ls rest) := by
  obtain ⟨hx, hb, -, hown, hts⟩ := B
  exact lv_ldc hx hb hown (hts _ q) d kk
theorem g_ldc2 (B : CallFix p m c cc nL s args AW own) {index : Nat} {v : Int64} (q : Cond.constantLong own index v ∈ AW) (d : decode cc pc = .ok (.ldc2_w index, 3)) (kk : W p l e R s m args below meth c H locs cells slots Q (F0 m (pc + 3) ls (.long v :: rest))) : W p l e R s m args below meth c H locs cells slots Q (F0 m pc ls rest) := by
  obtain ⟨hx, hb, -, hown, hts⟩ := B
  exact lv_ldc2 hx hb hown (hts _ q) d kk
theorem g_recv (F : Fx D ad cy ba s) (P : Wo D ad cy ba s σ H locs) {i ci N : Nat} {C : String} {T : u_T} (o : clsOk ci C T N) (hi : i < 81) (hk : kd i = ci) : ∃ cell : Cell, H[ad i]? = some cell ∧ cell.vm.isStatics = false ∧ s.vm.findClass C = some cell.cls :=
  va_recv F.1 P.1 o.1 ((WD_get hi).trans (by rw [enc_obj hk (cls_lt o)]))
/-- behind a call: the world that the contract tells -/
theorem g_call {σ' : Sg} {v : Option Value} {a : Array Value} {mc ms : Nat} {st0 : List Value} (P : Wo D ad cy ba s σ H locs) (hr : va_Run p l e R s m args below meth c H locs cells slots mc ms (F0 m pc ls st0) rest (Qe D ad cy ba v σ' a) (fun q => ba ≤ q))
    (kk : ∀ (H : Heap) (locs : List Loc), Wo D ad cy ba s σ' H locs → W p l e R s m args below meth c H locs (cells + mc) (slots + ms) Q (F0 m (pc + 3) ls (v.toList ++ rest))) : W p l e R s m args below meth c H locs cells slots Q (F0 m pc ls st0) := by
  intro T hT X
  obtain ⟨v', st₀, t, T', L, h0, X', hL, e1, e2, ⟨⟨hv, hp⟩, hz, hk⟩, st⟩ := hr T hT X
  cases hv
  rw [h0] at hz hk
  obtain ⟨t2, a1, b1⟩ := kk T'.heap (locs ++ L) ⟨by rw [e1]; exact hp, Nat.le_trans P.2.1 (by rw [e1]; exact hz), fun q h1 h2 => by rw [e1, hk q (Nat.lt_of_lt_of_le h1 P.2.1) h2]; exact P.2.2.1 q h1 h2, fun q hq => by
      rcases List.mem_append.mp hq with h | h
      · exact P.2.2.2 q h
      · exact hL q h⟩ T' rfl X'
  exact ⟨t2, st t2 a1, b1⟩
/-- .. that may throw -/
theorem g_callx {σ' : Sg} {k : Nat} {v : Option Value} {a : Array Value} {mc ms : Nat} {st0 : List Value} (P : Wo D ad cy ba s σ H locs) (hr : vx_Run p l e R s m args below meth c H locs cells slots mc ms (F0 m pc ls st0) rest (Qx D ad cy ba k v σ' a) (Xx D ad cy ba k σ') (fun q => ba ≤ q))
    (kx : k ≠ 0 → ∀ (ce : Cell) (q9 : Addr) (H : Heap) (locs : List Loc), Wo D ad cy ba s σ' H locs → H[q9]? = some ce → ce.vm = .none → s.vm.findClass (exN k) = some ce.cls → vx_W p l e R s m args below meth c H locs (cells + mc) (slots + ms) Q (F0 m pc ls rest) q9)
    (kk : k = 0 → ∀ (H : Heap) (locs : List Loc), Wo D ad cy ba s σ' H locs → W p l e R s m args below meth c H locs (cells + mc) (slots + ms) Q (F0 m (pc + 3) ls (v.toList ++ rest))) : W p l e R s m args below meth c H locs cells slots Q (F0 m pc ls st0) := by
  intro T hT X
  have kp : ∀ {T' t st₀ : State} {L : List Loc}, st₀.heap = H → T'.heap = t.heap → (∀ q ∈ L, ba ≤ q.base) → va_P D cls7 (WD ad cy σ') t.heap → va_F (fun q => ba ≤ q) st₀ t → Wo D ad cy ba s σ' T'.heap (locs ++ L) := by
    intro T' t st₀ L h0 e1 hL hp ⟨hz, hk⟩
    rw [h0] at hz hk
    exact ⟨by rw [e1]; exact hp, Nat.le_trans P.2.1 (by rw [e1]; exact hz), fun q h1 h2 => by rw [e1, hk q (Nat.lt_of_lt_of_le h1 P.2.1) h2]; exact P.2.2.1 q h1 h2, fun q hq => by
      rcases List.mem_append.mp hq with h | h
      · exact P.2.2.2 q h
      · exact hL q h⟩
  rcases hr T hT X with ⟨v', st₀, t, T', L, h0, X', hL, e1, e2, ⟨⟨h9, hv, hp⟩, hF⟩, st⟩ | ⟨q, st₀, t, T', L, E, ce, h0, X', hL, e1, e2, ⟨⟨h9, hE, hp⟩, hF⟩, hce, hcv, hcl, st⟩
  · cases hv
    obtain ⟨t2, a1, b1⟩ := kk h9 T'.heap (locs ++ L) (kp h0 e1 hL hp hF) T' rfl X'
    exact ⟨t2, st t2 a1, b1⟩
  · subst hE
    obtain ⟨t2, a1, b1⟩ := kx h9 ce q T'.heap (locs ++ L) (kp h0 e1 hL hp hF) (by rw [e1]; exact hce) hcv hcl T' rfl X'
    exact ⟨t2, st.trans a1, b1⟩
theorem good_in {ws : List Cond} (h : ∀ w ∈ ws, w ∈ AW) : GoodIn AW ws := fun w hw => ⟨h w hw, good_of_word (AW_good (h w hw))⟩
theorem good_V {index : Nat} {C : String} {y : MethodName} {bytes : ByteArray} {n : Nat} {ret : Option FieldType} (q1 : Cond.methodLink own index y ∈ AW) (q2 : Cond.instanceMethod y ∈ AW) (q3 : Cond.selects C y y ∈ AW) (q4 : Cond.initialized C ∈ AW) (q5 : Cond.code y bytes n ret ∈ AW) : GoodIn AW (wsV own index C y (ws_ y bytes n ret)) := good_in (fun w hw => by
  unfold wsV ws_ at hw
  simp only [List.cons_append, List.nil_append, List.mem_cons] at hw
  rcases hw with rfl | rfl | rfl | rfl | rfl | h
  · exact q1
  · exact q2
  · exact q3
  · exact q4
  · exact q5
  · exact h)
theorem good_S {index : Nat} {y : MethodName} {bytes : ByteArray} {n : Nat} {ret : Option FieldType} (q1 : Cond.methodLink own index y ∈ AW) (q2 : Cond.static y ∈ AW) (q4 : Cond.initialized y.cls ∈ AW) (q5 : Cond.code y bytes n ret ∈ AW) : GoodIn AW (va_wsS own index y (ws_ y bytes n ret)) := good_in (fun w hw => by
  unfold va_wsS ws_ at hw
  simp only [List.cons_append, List.nil_append, List.mem_cons] at hw
  rcases hw with rfl | rfl | rfl | rfl | h
  · exact q1
  · exact q2
  · exact q4
  · exact q5
  · exact h)
/-- what a method's name must be for a call of n arguments -/
def nmOk (y : MethodName) (C : String) (n : Nat) : Prop := y.cls = C ∧ y.cls ≠ "java/lang/invoke/MethodHandle" ∧ y.cls ≠ "java/lang/invoke/VarHandle" ∧ (parseMethodDescriptor y.desc).map (fun d => d.parameters.length) = some n
theorem g_callV (B : CallFix p m c cc nL s args AW own) (F : Fx D ad cy ba s) (P : Wo D ad cy ba s σ H locs) {d maxL index i ci N n : Nat} {C : String} {T : u_T} {y : MethodName} {bytes : ByteArray} {ret : Option FieldType} {As : List Value} {v : Option Value} {σ' : Sg} {st0 : List Value}
    (hM : Ct D ad cy ba l d y bytes maxL ret (.ref (ad i) :: As) σ v σ') (o : clsOk ci C T N) (hi : i < 81) (hk : kd i = ci) (q1 : Cond.methodLink own index y ∈ AW) (q2 : Cond.instanceMethod y ∈ AW) (q3 : Cond.selects C y y ∈ AW) (q4 : Cond.initialized C ∈ AW) (q5 : Cond.code y bytes maxL ret ∈ AW) (hy : nmOk y C n) (hn : As.length = n)
    (hR : 10 + d + 1 ≤ R.frames ∧ 8 + (maxL + 11) + (200 + 40 * d) ≤ R.locals) (hl : ls.size = nL) (hst : st0 = As.reverse ++ .ref (ad i) :: rest) (hw : (rest.map fun v => v.category).sum ≤ 8) (dg : decode cc pc = .ok (.invokevirtual index, 3)) (hf : cells ≤ R.cells ∧ slots ≤ R.slots)
    (kk : ∀ (H : Heap) (locs : List Loc), Wo D ad cy ba s σ' H locs → W p l e R s m args below meth c H locs cells slots Q (F0 m (pc + 3) ls (v.toList ++ rest))) : W p l e R s m args below meth c H locs cells slots Q (F0 m pc ls st0) :=
  g_call P (va_runV (b := ad i) (As := As) (rest := rest) B hM (cwV (mc := 0) (ms := 0) n B.2.2.2.2 (good_V q1 q2 q3 q4 q5) rfl rfl rfl hy hR) ⟨PcW_blind, g_recv F P o hi hk, PcW_at F P⟩ rfl hn hl hst (lv_room hw) dg hf) kk
theorem g_callS (B : CallFix p m c cc nL s args AW own) (F : Fx D ad cy ba s) (P : Wo D ad cy ba s σ H locs) {d maxL index n : Nat} {y : MethodName} {bytes : ByteArray} {ret : Option FieldType} {As : List Value} {v : Option Value} {σ' : Sg} {st0 : List Value}
    (hM : Ct D ad cy ba l d y bytes maxL ret As σ v σ') (q1 : Cond.methodLink own index y ∈ AW) (q2 : Cond.static y ∈ AW) (q4 : Cond.initialized y.cls ∈ AW) (q5 : Cond.code y bytes maxL ret ∈ AW) (hy : nmOk y y.cls n) (hn : As.length = n)
    (hR : 10 + d + 1 ≤ R.frames ∧ 8 + (maxL + 11) + (200 + 40 * d) ≤ R.locals) (hl : ls.size = nL) (hst : st0 = As.reverse ++ rest) (hw : (rest.map fun v => v.category).sum ≤ 8) (dg : decode cc pc = .ok (.invokestatic index, 3)) (hf : cells ≤ R.cells ∧ slots ≤ R.slots)
    (kk : ∀ (H : Heap) (locs : List Loc), Wo D ad cy ba s σ' H locs → W p l e R s m args below meth c H locs cells slots Q (F0 m (pc + 3) ls (v.toList ++ rest))) : W p l e R s m args below meth c H locs cells slots Q (F0 m pc ls st0) :=
  g_call P (va_runS (As := As) (rest := rest) B hM (va_cwS (mc := 0) (ms := 0) n B.2.2.2.2 (good_S q1 q2 q4 q5) rfl rfl rfl hy.2 hR) ⟨PcW_blind, PcW_at F P⟩ rfl hn hl hst (lv_room hw) dg hf) kk
theorem g_callVx (B : CallFix p m c cc nL s args AW own) (F : Fx D ad cy ba s) (P : Wo D ad cy ba s σ H locs) {d nx maxL index i ci N n k : Nat} {C : String} {T : u_T} {y : MethodName} {bytes : ByteArray} {ret : Option FieldType} {As : List Value} {v : Option Value} {σ' : Sg} {st0 : List Value}
    (hM : Cx D ad cy ba l d nx y bytes maxL ret (.ref (ad i) :: As) σ k v σ') (o : clsOk ci C T N) (hi : i < 81) (hk : kd i = ci) (q1 : Cond.methodLink own index y ∈ AW) (q2 : Cond.instanceMethod y ∈ AW) (q3 : Cond.selects C y y ∈ AW) (q4 : Cond.initialized C ∈ AW) (q5 : Cond.code y bytes maxL ret ∈ AW) (hy : nmOk y C n) (hn : As.length = n)
    (hR : 10 + d + 1 ≤ R.frames ∧ 8 + (maxL + 11) + (200 + 40 * d) ≤ R.locals) (hl : ls.size = nL) (hst : st0 = As.reverse ++ .ref (ad i) :: rest) (hw : (rest.map fun v => v.category).sum ≤ 8) (dg : decode cc pc = .ok (.invokevirtual index, 3)) (hf : cells + nx ≤ R.cells ∧ slots + 6 * nx ≤ R.slots)
    (kx : k ≠ 0 → ∀ (ce : Cell) (q9 : Addr) (H : Heap) (locs : List Loc), Wo D ad cy ba s σ' H locs → H[q9]? = some ce → ce.vm = .none → s.vm.findClass (exN k) = some ce.cls → vx_W p l e R s m args below meth c H locs (cells + nx) (slots + 6 * nx) Q (F0 m pc ls rest) q9)
    (kk : k = 0 → ∀ (H : Heap) (locs : List Loc), Wo D ad cy ba s σ' H locs → W p l e R s m args below meth c H locs (cells + nx) (slots + 6 * nx) Q (F0 m (pc + 3) ls (v.toList ++ rest))) : W p l e R s m args below meth c H locs cells slots Q (F0 m pc ls st0) :=
  g_callx P (vx_runV (b := ad i) (As := As) (rest := rest) B hM (cwV (mc := nx) (ms := 6 * nx) n B.2.2.2.2 (good_V q1 q2 q3 q4 q5) rfl rfl rfl hy hR) ⟨PcW_blind, g_recv F P o hi hk, PcW_at F P⟩ rfl hn hl hst (lv_room hw) dg hf) kx kk
theorem g_callSx (B : CallFix p m c cc nL s args AW own) (F : Fx D ad cy ba s) (P : Wo D ad cy ba s σ H locs) {d nx maxL index n k : Nat} {y : MethodName} {bytes : ByteArray} {ret : Option FieldType} {As : List Value} {v : Option Value} {σ' : Sg} {st0 : List Value}
    (hM : Cx D ad cy ba l d nx y bytes maxL ret As σ k v σ') (q1 : Cond.methodLink own index y ∈ AW) (q2 : Cond.static y ∈ AW) (q4 : Cond.initialized y.cls ∈ AW) (q5 : Cond.code y bytes maxL ret ∈ AW) (hy : nmOk y y.cls n) (hn : As.length = n)
    (hR : 10 + d + 1 ≤ R.frames ∧ 8 + (maxL + 11) + (200 + 40 * d) ≤ R.locals) (hl : ls.size = nL) (hst : st0 = As.reverse ++ rest) (hw : (rest.map fun v => v.category).sum ≤ 8) (dg : decode cc pc = .ok (.invokestatic index, 3)) (hf : cells + nx ≤ R.cells ∧ slots + 6 * nx ≤ R.slots)
    (kx : k ≠ 0 → ∀ (ce : Cell) (q9 : Addr) (H : Heap) (locs : List Loc), Wo D ad cy ba s σ' H locs → H[q9]? = some ce → ce.vm = .none → s.vm.findClass (exN k) = some ce.cls → vx_W p l e R s m args below meth c H locs (cells + nx) (slots + 6 * nx) Q (F0 m pc ls rest) q9)
    (kk : k = 0 → ∀ (H : Heap) (locs : List Loc), Wo D ad cy ba s σ' H locs → W p l e R s m args below meth c H locs (cells + nx) (slots + 6 * nx) Q (F0 m (pc + 3) ls (v.toList ++ rest))) : W p l e R s m args below meth c H locs cells slots Q (F0 m pc ls st0) :=
  g_callx P (vx_runS (As := As) (rest := rest) B hM (va_cwS (mc := nx) (ms := 6 * nx) n B.2.2.2.2 (good_S q1 q2 q4 q5) rfl rfl rfl hy.2 hR) ⟨PcW_blind, PcW_at F P⟩ rfl hn hl hst (lv_room hw) dg hf) kx kk
theorem g_callSN (B : CallFix p m c cc nL s args AW own) (F : Fx D ad cy ba s) (P : Wo D ad cy ba s σ H locs) {d maxL index n : Nat} {y : MethodName} {host : String} {bytes : ByteArray} {ret : Option FieldType} {As : List Value} {v : Option Value} {σ' : Sg} {st0 : List Value}
    (hM : Ct D ad cy ba l d y bytes maxL ret As σ v σ') (q1 : Cond.methodLinkNest own index y host ∈ KW) (q2 : Cond.static y ∈ AW) (q4 : Cond.initialized y.cls ∈ AW) (q5 : Cond.code y bytes maxL ret ∈ AW) (hy : nmOk y y.cls n) (hn : As.length = n)
    (hR : 10 + d + 1 ≤ R.frames ∧ 8 + (maxL + 11) + (200 + 40 * d) ≤ R.locals) (hl : ls.size = nL) (hst : st0 = As.reverse ++ rest) (hw : (rest.map fun v => v.category).sum ≤ 8) (dg : decode cc pc = .ok (.invokestatic index, 3)) (hf : cells ≤ R.cells ∧ slots ≤ R.slots)
    (kk : ∀ (H : Heap) (locs : List Loc), Wo D ad cy ba s σ' H locs → W p l e R s m args below meth c H locs cells slots Q (F0 m (pc + 3) ls (v.toList ++ rest))) : W p l e R s m args below meth c H locs cells slots Q (F0 m pc ls st0) :=
  g_call P (va_runSN (As := As) (rest := rest) (ws := ws_ y bytes maxL ret) (rm := rmK d 0 0) B hM ⟨va_cnB (mc := 0) (ms := 0) n B.2.2.2.2 (good_in (fun w hw => by rcases List.mem_cons.mp hw with rfl | h <;> assumption)) rfl rfl rfl (F.2.2.2.1.1 _ q1) (B.2.2.2.2 _ q4) hy.2 hR, B.2.2.2.2 _ q2, trivial⟩ ⟨PcW_blind, PcW_at F P⟩ rfl hn hl hst (lv_room hw) dg hf) kk
end GROWS
end
section
section GENDS
variable {p : Program} {l : Launch} {e : Env} {R : Room} {s : State} {m : MethodId} {args : Array Value} {below : List Frame} {meth : Method} {c : Code} {H : Heap} {locs : List Loc} {cells slots : Nat} {Q : State → Prop}
variable {cc : ByteArray} {nL pc : Nat} {own : String} {ls : Array Slot} {rest : List Value} {D : va_G} {ad : Nat → Nat} {cy : Nat → ClassId} {ba : Nat} {σ σ' : Sg} {v : Option Value} {k nx : Nat}
theorem g_reti (B : CallFix p m c cc nL s args AW own) (P : Wo D ad cy ba s σ H locs) {r : Int32} (hv : some (Value.int r) = v) (hσ : σ = σ') (hr : meth.sig.returnType = some .int) (hlk : meth.locks = false) (d : decode cc pc = .ok (.ireturn, 1)) : W p l e R s m args below meth c H locs cells slots (MQ below (Qe D ad cy ba v σ') args s cells slots (fun q => ba ≤ q)) (F0 m pc ls [.int r]) := by
  obtain ⟨hx, hb, -, -, -⟩ := B
  subst hv; subst hσ
  exact W.iret hx hb hr (fun t ht hW => ⟨⟨rfl, by rw [ht]; exact P.1⟩, P.2.F ht⟩) P.2.2.2 d hlk
theorem g_retix (B : CallFix p m c cc nL s args AW own) (P : Wo D ad cy ba s σ H locs) {r : Int32} (hk : k = 0) (hv : some (Value.int r) = v) (hσ : σ = σ') (hr : meth.sig.returnType = some .int) (hlk : meth.locks = false) (hc : cells ≤ nx) (hs : slots ≤ 6 * nx) (d : decode cc pc = .ok (.ireturn, 1)) : W p l e R s m args below meth c H locs cells slots (vx_MQ below (Qx D ad cy ba k v σ') (Xx D ad cy ba k σ') args s nx (6 * nx) (fun q => ba ≤ q)) (F0 m pc ls [.int r]) := by
  obtain ⟨hx, hb, -, -, -⟩ := B
  subst hv; subst hσ
  exact vx_ret (W.widen hc hs (W.iret hx hb hr (fun t ht hW => ⟨⟨hk, rfl, by rw [ht]; exact P.1⟩, P.2.F ht⟩) P.2.2.2 d hlk))
theorem g_retiw (B : CallFix p m c cc nL s args AW own) (P : Wo D ad cy ba s σ H locs) {r : Int32} (hv : some (Value.int r) = v) (hσ : σ = σ') (hr : meth.sig.returnType = some .int) (hlk : meth.locks = false) (hc : cells ≤ nx) (hs : slots ≤ 6 * nx) (d : decode cc pc = .ok (.ireturn, 1)) : W p l e R s m args below meth c H locs cells slots (MQ below (Qe D ad cy ba v σ') args s nx (6 * nx) (fun q => ba ≤ q)) (F0 m pc ls [.int r]) :=
  W.widen hc hs (g_reti B P hv hσ hr hlk d)
theorem g_retl (B : CallFix p m c cc nL s args AW own) (P : Wo D ad cy ba s σ H locs) {r : Int64} (hv : some (Value.long r) = v) (hσ : σ = σ') (hr : meth.sig.returnType = some .long) (hlk : meth.locks = false) (d : decode cc pc = .ok (.lreturn, 1)) : W p l e R s m args below meth c H locs cells slots (MQ below (Qe D ad cy ba v σ') args s cells slots (fun q => ba ≤ q)) (F0 m pc ls [.long r]) := by
  obtain ⟨hx, hb, -, -, -⟩ := B
  subst hv; subst hσ
  exact W.lret hx hb hr (fun t ht hW => ⟨⟨rfl, by rw [ht]; exact P.1⟩, P.2.F ht⟩) P.2.2.2 d hlk
theorem g_retlx (B : CallFix p m c cc nL s args AW own) (P : Wo D ad cy ba s σ H locs) {r : Int64} (hk : k = 0) (hv : some (Value.long r) = v) (hσ : σ = σ') (hr : meth.sig.returnType = some .long) (hlk : meth.locks = false) (hc : cells ≤ nx) (hs : slots ≤ 6 * nx) (d : decode cc pc = .ok (.lreturn, 1)) : W p l e R s m args below meth c H locs cells slots (vx_MQ below (Qx D ad cy ba k v σ') (Xx D ad cy ba k σ') args s nx (6 * nx) (fun q => ba ≤ q)) (F0 m pc ls [.long r]) := by
  obtain ⟨hx, hb, -, -, -⟩ := B
  subst hv; subst hσ
  exact vx_ret (W.widen hc hs (W.lret hx hb hr (fun t ht hW => ⟨⟨hk, rfl, by rw [ht]; exact P.1⟩, P.2.F ht⟩) P.2.2.2 d hlk))
theorem g_retlw (B : CallFix p m c cc nL s args AW own) (P : Wo D ad cy ba s σ H locs) {r : Int64} (hv : some (Value.long r) = v) (hσ : σ = σ') (hr : meth.sig.returnType = some .long) (hlk : meth.locks = false) (hc : cells ≤ nx) (hs : slots ≤ 6 * nx) (d : decode cc pc = .ok (.lreturn, 1)) : W p l e R s m args below meth c H locs cells slots (MQ below (Qe D ad cy ba v σ') args s nx (6 * nx) (fun q => ba ≤ q)) (F0 m pc ls [.long r]) :=
  W.widen hc hs (g_retl B P hv hσ hr hlk d)
theorem g_retf (B : CallFix p m c cc nL s args AW own) (P : Wo D ad cy ba s σ H locs) {r : UInt32} (hv : some (Value.float r) = v) (hσ : σ = σ') (hr : meth.sig.returnType = some .float) (hlk : meth.locks = false) (d : decode cc pc = .ok (.freturn, 1)) : W p l e R s m args below meth c H locs cells slots (MQ below (Qe D ad cy ba v σ') args s cells slots (fun q => ba ≤ q)) (F0 m pc ls [.float r]) := by
  obtain ⟨hx, hb, -, -, -⟩ := B
  subst hv; subst hσ
  exact W.fret hx hb hr (fun t ht hW => ⟨⟨rfl, by rw [ht]; exact P.1⟩, P.2.F ht⟩) P.2.2.2 d hlk
theorem g_retfx (B : CallFix p m c cc nL s args AW own) (P : Wo D ad cy ba s σ H locs) {r : UInt32} (hk : k = 0) (hv : some (Value.float r) = v) (hσ : σ = σ') (hr : meth.sig.returnType = some .float) (hlk : meth.locks = false) (hc : cells ≤ nx) (hs : slots ≤ 6 * nx) (d : decode cc pc = .ok (.freturn, 1)) : W p l e R s m args below meth c H locs cells slots (vx_MQ below (Qx D ad cy ba k v σ') (Xx D ad cy ba k σ') args s nx (6 * nx) (fun q => ba ≤ q)) (F0 m pc ls [.float r]) := by
  obtain ⟨hx, hb, -, -, -⟩ := B
  subst hv; subst hσ
  exact vx_ret (W.widen hc hs (W.fret hx hb hr (fun t ht hW => ⟨⟨hk, rfl, by rw [ht]; exact P.1⟩, P.2.F ht⟩) P.2.2.2 d hlk))
theorem g_retfw (B : CallFix p m c cc nL s args AW own) (P : Wo D ad cy ba s σ H locs) {r : UInt32} (hv : some (Value.float r) = v) (hσ : σ = σ') (hr : meth.sig.returnType = some .float) (hlk : meth.locks = false) (hc : cells ≤ nx) (hs : slots ≤ 6 * nx) (d : decode cc pc = .ok (.freturn, 1)) : W p l e R s m args below meth c H locs cells slots (MQ below (Qe D ad cy ba v σ') args s nx (6 * nx) (fun q => ba ≤ q)) (F0 m pc ls [.float r]) :=
  W.widen hc hs (g_retf B P hv hσ hr hlk d)
theorem g_retd (B : CallFix p m c cc nL s args AW own) (P : Wo D ad cy ba s σ H locs) {r : UInt64} (hv : some (Value.double r) = v) (hσ : σ = σ') (hr : meth.sig.returnType = some .double) (hlk : meth.locks = false) (d : decode cc pc = .ok (.dreturn, 1)) : W p l e R s m args below meth c H locs cells slots (MQ below (Qe D ad cy ba v σ') args s cells slots (fun q => ba ≤ q)) (F0 m pc ls [.double r]) := by
  obtain ⟨hx, hb, -, -, -⟩ := B
  subst hv; subst hσ
  exact W.dret hx hb hr (fun t ht hW => ⟨⟨rfl, by rw [ht]; exact P.1⟩, P.2.F ht⟩) P.2.2.2 d hlk
theorem g_retdx (B : CallFix p m c cc nL s args AW own) (P : Wo D ad cy ba s σ H locs) {r : UInt64} (hk : k = 0) (hv : some (Value.double r) = v) (hσ : σ = σ') (hr : meth.sig.returnType = some .double) (hlk : meth.locks = false) (hc : cells ≤ nx) (hs : slots ≤ 6 * nx) (d : decode cc pc = .ok (.dreturn, 1)) : W p l e R s m args below meth c H locs cells slots (vx_MQ below (Qx D ad cy ba k v σ') (Xx D ad cy ba k σ') args s nx (6 * nx) (fun q => ba ≤ q)) (F0 m pc ls [.double r]) := by
  obtain ⟨hx, hb, -, -, -⟩ := B
  subst hv; subst hσ
  exact vx_ret (W.widen hc hs (W.dret hx hb hr (fun t ht hW => ⟨⟨hk, rfl, by rw [ht]; exact P.1⟩, P.2.F ht⟩) P.2.2.2 d hlk))
theorem g_retdw (B : CallFix p m c cc nL s args AW own) (P : Wo D ad cy ba s σ H locs) {r : UInt64} (hv : some (Value.double r) = v) (hσ : σ = σ') (hr : meth.sig.returnType = some .double) (hlk : meth.locks = false) (hc : cells ≤ nx) (hs : slots ≤ 6 * nx) (d : decode cc pc = .ok (.dreturn, 1)) : W p l e R s m args below meth c H locs cells slots (MQ below (Qe D ad cy ba v σ') args s nx (6 * nx) (fun q => ba ≤ q)) (F0 m pc ls [.double r]) :=
  W.widen hc hs (g_retd B P hv hσ hr hlk d)
theorem g_retz (B : CallFix p m c cc nL s args AW own) (P : Wo D ad cy ba s σ H locs) {r : Int32} (hv : some (Value.int r) = v) (hσ : σ = σ') (hr : meth.sig.returnType = some .boolean) (hn : narrow .boolean (.int r) = .int r) (hlk : meth.locks = false) (d : decode cc pc = .ok (.ireturn, 1)) : W p l e R s m args below meth c H locs cells slots (MQ below (Qe D ad cy ba v σ') args s cells slots (fun q => ba ≤ q)) (F0 m pc ls [.int r]) := by
  obtain ⟨hx, hb, -, -, -⟩ := B
  subst hv; subst hσ
  exact W.zret hx hb hr hn (fun t ht hW => ⟨⟨rfl, by rw [ht]; exact P.1⟩, P.2.F ht⟩) P.2.2.2 d hlk
theorem g_retzx (B : CallFix p m c cc nL s args AW own) (P : Wo D ad cy ba s σ H locs) {r : Int32} (hk : k = 0) (hv : some (Value.int r) = v) (hσ : σ = σ') (hr : meth.sig.returnType = some .boolean) (hn : narrow .boolean (.int r) = .int r) (hlk : meth.locks = false) (hc : cells ≤ nx) (hs : slots ≤ 6 * nx) (d : decode cc pc = .ok (.ireturn, 1)) : W p l e R s m args below meth c H locs cells slots (vx_MQ below (Qx D ad cy ba k v σ') (Xx D ad cy ba k σ') args s nx (6 * nx) (fun q => ba ≤ q)) (F0 m pc ls [.int r]) := by
  obtain ⟨hx, hb, -, -, -⟩ := B
  subst hv; subst hσ
  exact vx_ret (W.widen hc hs (W.zret hx hb hr hn (fun t ht hW => ⟨⟨hk, rfl, by rw [ht]; exact P.1⟩, P.2.F ht⟩) P.2.2.2 d hlk))
theorem g_retv (B : CallFix p m c cc nL s args AW own) (P : Wo D ad cy ba s σ H locs) (hv : none = v) (hσ : σ = σ') (hr : meth.sig.returnType = none) (hlk : meth.locks = false) (d : decode cc pc = .ok (.return_, 1)) : W p l e R s m args below meth c H locs cells slots (MQ below (Qe D ad cy ba v σ') args s cells slots (fun q => ba ≤ q)) (F0 m pc ls []) := by
  obtain ⟨hx, hb, -, -, -⟩ := B
  subst hv; subst hσ
  exact W.vret hx hb hr (fun t ht hW => ⟨⟨rfl, by rw [ht]; exact P.1⟩, P.2.F ht⟩) P.2.2.2 d hlk
theorem g_retvx (B : CallFix p m c cc nL s args AW own) (P : Wo D ad cy ba s σ H locs) (hk : k = 0) (hv : none = v) (hσ : σ = σ') (hr : meth.sig.returnType = none) (hlk : meth.locks = false) (hc : cells ≤ nx) (hs : slots ≤ 6 * nx) (d : decode cc pc = .ok (.return_, 1)) : W p l e R s m args below meth c H locs cells slots (vx_MQ below (Qx D ad cy ba k v σ') (Xx D ad cy ba k σ') args s nx (6 * nx) (fun q => ba ≤ q)) (F0 m pc ls []) := by
  obtain ⟨hx, hb, -, -, -⟩ := B
  subst hv; subst hσ
  exact vx_ret (W.widen hc hs (W.vret hx hb hr (fun t ht hW => ⟨⟨hk, rfl, by rw [ht]; exact P.1⟩, P.2.F ht⟩) P.2.2.2 d hlk))
/-- thrown by a callee, not caught here -/
theorem g_out (P : Wo D ad cy ba s σ H locs) {k' : Nat} {ce : Cell} {q9 : Addr} (hk0 : k' ≠ 0) (hk : k = k') (hσ : σ = σ') (ht : ∀ x ∈ c.exceptionTable.toList, False) (hlk : meth.locks = false) (hc : cells ≤ nx) (hs : slots ≤ 6 * nx) (h1 : H[q9]? = some ce) (h2 : ce.vm = .none) (h3 : s.vm.findClass (exN k') = some ce.cls) : vx_W p l e R s m args below meth c H locs cells slots (vx_MQ below (Qx D ad cy ba k v σ') (Xx D ad cy ba k σ') args s nx (6 * nx) (fun q => ba ≤ q)) (F0 m pc ls rest) q9 := by
  subst hk; subst hσ
  exact vx_out (fun x hx => (ht x hx).elim) hlk h1 h2 h3 (fun t ht hW => ⟨⟨hk0, rfl, by rw [ht]; exact P.1⟩, P.2.F ht⟩) P.2.2.2 hc hs
theorem at1_eq : vx_atS RX5 176 (exN 1) ["java/lang/RuntimeException", "java/lang/Exception"] = [36, 423, 432, 440, 443, 445, 424, 425, 55, 56, 426, 431, 441, 461, 413, 462, 415, 463, 417, 427, 429, 419, 457, 458, 460, 419, 448, 449, 450, 451, 405, 451, 452, 453, 454, 407, 454, 455, 456, 457, 409, 447, 402, 403, 410, 411, 412, 414, 416, 418, 422, 421, 420].filterMap (fun i => lw_tbl[i]?) := by decide +kernel
theorem at1_ok : (vx_atS RX5 176 (exN 1) ["java/lang/RuntimeException", "java/lang/Exception"]).all (fun w => goodWord w || kwd w) = true := by decide +kernel
theorem at1_in {s : State} {args : Array Value} (hts : ∀ w ∈ AW, w.before args s = true) (h : XF s) : ∀ w ∈ vx_atS RX5 176 (exN 1) ["java/lang/RuntimeException", "java/lang/Exception"], w.before args s = true := fun w hw => by
  have h1 := List.all_eq_true.mp at1_ok w hw
  rw [at1_eq] at hw
  obtain ⟨i, -, hi⟩ := List.mem_filterMap.mp hw
  have hm : w ∈ lw_tbl := List.mem_of_getElem? hi
  rcases Bool.or_eq_true _ _ |>.mp h1 with g | g
  · exact hts w (List.mem_filter.mpr ⟨hm, g⟩)
  · refine va_Nw.use ?_ (h.1 w (List.mem_filter.mpr ⟨hm, g⟩))
    cases w <;> first | rfl | exact absurd (show false = true from g) Bool.false_ne_true
/-- throw new java/lang/IllegalArgumentException("..") -/
theorem g_throw1 (B : CallFix p m c cc nL s args AW RX5) (F : Fx D ad cy ba s) (P : Wo D ad cy ba s σ H locs) (hx : l.stackTraces = false) {is : Nat} {text : String} (hq : (is, text) ∈ SRL) (hk : k = 1) (hσ : σ = σ') (hl : ls.size = nL) (hlk : meth.locks = false) (ht : ∀ x ∈ c.exceptionTable.toList, False)
    (d0 : decode cc pc = .ok (.new 172, 3)) (d3 : decode cc (pc + 3) = .ok (.dup, 1)) (d4 : decode cc (pc + 4) = .ok (.ldc is, 2)) (d6 : decode cc (pc + 6) = .ok (.invokespecial 176, 3)) (d9 : decode cc (pc + 9) = .ok (.athrow, 1))
    (hRf : 5 < R.frames) (hRl : (rest.map fun v => v.category).sum + 82 ≤ R.locals) (hRc : cells + 1 ≤ R.cells) (hRs : slots + 6 ≤ R.slots) (hc : cells + 1 ≤ nx) (hs : slots + 6 ≤ 6 * nx) : W p l e R s m args below meth c H locs cells slots (vx_MQ below (Qx D ad cy ba k v σ') (Xx D ad cy ba k σ') args s nx (6 * nx) (fun q => ba ≤ q)) (F0 m pc ls rest) := by
  obtain ⟨hexec, hb, hml, hown, hts⟩ := B
  subst hk; subst hσ
  obtain ⟨sa, hsa⟩ := F.2.2.2.1.2.1 _ hq
  refine vx_throwS (cls := exN 1) (names := ["java/lang/RuntimeException", "java/lang/Exception"]) hexec hb hx hown (by decide +kernel) (by decide +kernel) (hts _ q374) (hts _ q12) hsa (at1_in hts F.2.2.2.1) (by decide +kernel) F.2.2.2.2.1 F.2.2.2.2.2 P.2 (hl.trans hml.symm) d0 d3 d4 d6 d9 (fun x hx => (ht x hx).elim) hRf hRl hRc hRs hlk (fun t hvm h1 h2 => ⟨⟨by decide, rfl, P.1.kept (fun k q hk => h2 q.1 ((P.1 k q hk).lt))⟩, ?_⟩) P.2.2.2 hc hs
  exact ⟨Nat.le_trans P.2.1 h1, fun q hq hA => (h2 q (Nat.lt_of_lt_of_le hq P.2.1)).trans (P.2.2.1 q hq hA)⟩
theorem at2_eq : vx_atS RX5 64 (exN 2) ["java/lang/RuntimeException", "java/lang/Exception"] = [36, 423, 432, 440, 443, 445, 424, 425, 55, 56, 426, 431, 441, 461, 413, 462, 415, 463, 417, 427, 429, 419, 457, 458, 460, 419, 484, 485, 486, 451, 405, 451, 452, 453, 454, 407, 454, 455, 456, 457, 409, 483, 474, 475, 476, 436, 477, 478, 479, 480, 422, 421, 481].filterMap (fun i => lw_tbl[i]?) := by decide +kernel
theorem at2_ok : (vx_atS RX5 64 (exN 2) ["java/lang/RuntimeException", "java/lang/Exception"]).all (fun w => goodWord w || kwd w) = true := by decide +kernel
theorem at2_in {s : State} {args : Array Value} (hts : ∀ w ∈ AW, w.before args s = true) (h : XF s) : ∀ w ∈ vx_atS RX5 64 (exN 2) ["java/lang/RuntimeException", "java/lang/Exception"], w.before args s = true := fun w hw => by
  have h1 := List.all_eq_true.mp at2_ok w hw
  rw [at2_eq] at hw
  obtain ⟨i, -, hi⟩ := List.mem_filterMap.mp hw
  have hm : w ∈ lw_tbl := List.mem_of_getElem? hi
  rcases Bool.or_eq_true _ _ |>.mp h1 with g | g
  · exact hts w (List.mem_filter.mpr ⟨hm, g⟩)
  · refine va_Nw.use ?_ (h.1 w (List.mem_filter.mpr ⟨hm, g⟩))
    cases w <;> first | rfl | exact absurd (show false = true from g) Bool.false_ne_true
/-- throw new java/lang/IllegalStateException("..") -/
theorem g_throw2 (B : CallFix p m c cc nL s args AW RX5) (F : Fx D ad cy ba s) (P : Wo D ad cy ba s σ H locs) (hx : l.stackTraces = false) {is : Nat} {text : String} (hq : (is, text) ∈ SRL) (hk : k = 2) (hσ : σ = σ') (hl : ls.size = nL) (hlk : meth.locks = false) (ht : ∀ x ∈ c.exceptionTable.toList, False)
    (d0 : decode cc pc = .ok (.new 60, 3)) (d3 : decode cc (pc + 3) = .ok (.dup, 1)) (d4 : decode cc (pc + 4) = .ok (.ldc is, 2)) (d6 : decode cc (pc + 6) = .ok (.invokespecial 64, 3)) (d9 : decode cc (pc + 9) = .ok (.athrow, 1))
    (hRf : 5 < R.frames) (hRl : (rest.map fun v => v.category).sum + 82 ≤ R.locals) (hRc : cells + 1 ≤ R.cells) (hRs : slots + 6 ≤ R.slots) (hc : cells + 1 ≤ nx) (hs : slots + 6 ≤ 6 * nx) : W p l e R s m args below meth c H locs cells slots (vx_MQ below (Qx D ad cy ba k v σ') (Xx D ad cy ba k σ') args s nx (6 * nx) (fun q => ba ≤ q)) (F0 m pc ls rest) := by
  obtain ⟨hexec, hb, hml, hown, hts⟩ := B
  subst hk; subst hσ
  obtain ⟨sa, hsa⟩ := F.2.2.2.1.2.1 _ hq
  refine vx_throwS (cls := exN 2) (names := ["java/lang/RuntimeException", "java/lang/Exception"]) hexec hb hx hown (by decide +kernel) (by decide +kernel) (hts _ q446) (hts _ q13) hsa (at2_in hts F.2.2.2.1) (by decide +kernel) F.2.2.2.2.1 F.2.2.2.2.2 P.2 (hl.trans hml.symm) d0 d3 d4 d6 d9 (fun x hx => (ht x hx).elim) hRf hRl hRc hRs hlk (fun t hvm h1 h2 => ⟨⟨by decide, rfl, P.1.kept (fun k q hk => h2 q.1 ((P.1 k q hk).lt))⟩, ?_⟩) P.2.2.2 hc hs
  exact ⟨Nat.le_trans P.2.1 h1, fun q hq hA => (h2 q (Nat.lt_of_lt_of_le hq P.2.1)).trans (P.2.2.1 q hq hA)⟩
theorem at3_eq : vx_atS RX5 211 (exN 3) ["java/lang/RuntimeException", "java/lang/Exception"] = [36, 423, 432, 440, 443, 445, 424, 425, 55, 56, 426, 431, 441, 461, 413, 462, 415, 463, 417, 427, 429, 419, 457, 458, 460, 419, 497, 498, 499, 451, 405, 451, 452, 453, 454, 407, 454, 455, 456, 457, 409, 534, 525, 526, 527, 437, 528, 529, 530, 531, 422, 421, 532].filterMap (fun i => lw_tbl[i]?) := by decide +kernel
theorem at3_ok : (vx_atS RX5 211 (exN 3) ["java/lang/RuntimeException", "java/lang/Exception"]).all (fun w => goodWord w || kwd w) = true := by decide +kernel
theorem at3_in {s : State} {args : Array Value} (hts : ∀ w ∈ AW, w.before args s = true) (h : XF s) : ∀ w ∈ vx_atS RX5 211 (exN 3) ["java/lang/RuntimeException", "java/lang/Exception"], w.before args s = true := fun w hw => by
  have h1 := List.all_eq_true.mp at3_ok w hw
  rw [at3_eq] at hw
  obtain ⟨i, -, hi⟩ := List.mem_filterMap.mp hw
  have hm : w ∈ lw_tbl := List.mem_of_getElem? hi
  rcases Bool.or_eq_true _ _ |>.mp h1 with g | g
  · exact hts w (List.mem_filter.mpr ⟨hm, g⟩)
  · refine va_Nw.use ?_ (h.1 w (List.mem_filter.mpr ⟨hm, g⟩))
    cases w <;> first | rfl | exact absurd (show false = true from g) Bool.false_ne_true
/-- throw new java/lang/IndexOutOfBoundsException("..") -/
theorem g_throw3 (B : CallFix p m c cc nL s args AW RX5) (F : Fx D ad cy ba s) (P : Wo D ad cy ba s σ H locs) (hx : l.stackTraces = false) {is : Nat} {text : String} (hq : (is, text) ∈ SRL) (hk : k = 3) (hσ : σ = σ') (hl : ls.size = nL) (hlk : meth.locks = false) (ht : ∀ x ∈ c.exceptionTable.toList, False)
    (d0 : decode cc pc = .ok (.new 207, 3)) (d3 : decode cc (pc + 3) = .ok (.dup, 1)) (d4 : decode cc (pc + 4) = .ok (.ldc is, 2)) (d6 : decode cc (pc + 6) = .ok (.invokespecial 211, 3)) (d9 : decode cc (pc + 9) = .ok (.athrow, 1))
    (hRf : 5 < R.frames) (hRl : (rest.map fun v => v.category).sum + 82 ≤ R.locals) (hRc : cells + 1 ≤ R.cells) (hRs : slots + 6 ≤ R.slots) (hc : cells + 1 ≤ nx) (hs : slots + 6 ≤ 6 * nx) : W p l e R s m args below meth c H locs cells slots (vx_MQ below (Qx D ad cy ba k v σ') (Xx D ad cy ba k σ') args s nx (6 * nx) (fun q => ba ≤ q)) (F0 m pc ls rest) := by
  obtain ⟨hexec, hb, hml, hown, hts⟩ := B
  subst hk; subst hσ
  obtain ⟨sa, hsa⟩ := F.2.2.2.1.2.1 _ hq
  refine vx_throwS (cls := exN 3) (names := ["java/lang/RuntimeException", "java/lang/Exception"]) hexec hb hx hown (by decide +kernel) (by decide +kernel) (hts _ q497) (hts _ q14) hsa (at3_in hts F.2.2.2.1) (by decide +kernel) F.2.2.2.2.1 F.2.2.2.2.2 P.2 (hl.trans hml.symm) d0 d3 d4 d6 d9 (fun x hx => (ht x hx).elim) hRf hRl hRc hRs hlk (fun t hvm h1 h2 => ⟨⟨by decide, rfl, P.1.kept (fun k q hk => h2 q.1 ((P.1 k q hk).lt))⟩, ?_⟩) P.2.2.2 hc hs
  exact ⟨Nat.le_trans P.2.1 h1, fun q hq hA => (h2 q (Nat.lt_of_lt_of_le hq P.2.1)).trans (P.2.2.1 q hq hA)⟩
theorem at4_eq : vx_atS RX5 97 (exN 4) ["java/lang/RuntimeException", "java/lang/Exception"] = [36, 423, 432, 440, 443, 445, 424, 425, 55, 56, 426, 431, 441, 461, 413, 462, 415, 463, 417, 427, 429, 419, 457, 458, 460, 419, 575, 576, 577, 451, 405, 451, 452, 453, 454, 407, 454, 455, 456, 457, 409, 574, 565, 566, 567, 438, 568, 569, 570, 571, 422, 421, 572].filterMap (fun i => lw_tbl[i]?) := by decide +kernel
theorem at4_ok : (vx_atS RX5 97 (exN 4) ["java/lang/RuntimeException", "java/lang/Exception"]).all (fun w => goodWord w || kwd w) = true := by decide +kernel
theorem at4_in {s : State} {args : Array Value} (hts : ∀ w ∈ AW, w.before args s = true) (h : XF s) : ∀ w ∈ vx_atS RX5 97 (exN 4) ["java/lang/RuntimeException", "java/lang/Exception"], w.before args s = true := fun w hw => by
  have h1 := List.all_eq_true.mp at4_ok w hw
  rw [at4_eq] at hw
  obtain ⟨i, -, hi⟩ := List.mem_filterMap.mp hw
  have hm : w ∈ lw_tbl := List.mem_of_getElem? hi
  rcases Bool.or_eq_true _ _ |>.mp h1 with g | g
  · exact hts w (List.mem_filter.mpr ⟨hm, g⟩)
  · refine va_Nw.use ?_ (h.1 w (List.mem_filter.mpr ⟨hm, g⟩))
    cases w <;> first | rfl | exact absurd (show false = true from g) Bool.false_ne_true
/-- throw new java/lang/UnsupportedOperationException("..") -/
theorem g_throw4 (B : CallFix p m c cc nL s args AW RX5) (F : Fx D ad cy ba s) (P : Wo D ad cy ba s σ H locs) (hx : l.stackTraces = false) {is : Nat} {text : String} (hq : (is, text) ∈ SRL) (hk : k = 4) (hσ : σ = σ') (hl : ls.size = nL) (hlk : meth.locks = false) (ht : ∀ x ∈ c.exceptionTable.toList, False)
    (d0 : decode cc pc = .ok (.new 93, 3)) (d3 : decode cc (pc + 3) = .ok (.dup, 1)) (d4 : decode cc (pc + 4) = .ok (.ldc is, 2)) (d6 : decode cc (pc + 6) = .ok (.invokespecial 97, 3)) (d9 : decode cc (pc + 9) = .ok (.athrow, 1))
    (hRf : 5 < R.frames) (hRl : (rest.map fun v => v.category).sum + 82 ≤ R.locals) (hRc : cells + 1 ≤ R.cells) (hRs : slots + 6 ≤ R.slots) (hc : cells + 1 ≤ nx) (hs : slots + 6 ≤ 6 * nx) : W p l e R s m args below meth c H locs cells slots (vx_MQ below (Qx D ad cy ba k v σ') (Xx D ad cy ba k σ') args s nx (6 * nx) (fun q => ba ≤ q)) (F0 m pc ls rest) := by
  obtain ⟨hexec, hb, hml, hown, hts⟩ := B
  subst hk; subst hσ
  obtain ⟨sa, hsa⟩ := F.2.2.2.1.2.1 _ hq
  refine vx_throwS (cls := exN 4) (names := ["java/lang/RuntimeException", "java/lang/Exception"]) hexec hb hx hown (by decide +kernel) (by decide +kernel) (hts _ q537) (hts _ q17) hsa (at4_in hts F.2.2.2.1) (by decide +kernel) F.2.2.2.2.1 F.2.2.2.2.2 P.2 (hl.trans hml.symm) d0 d3 d4 d6 d9 (fun x hx => (ht x hx).elim) hRf hRl hRc hRs hlk (fun t hvm h1 h2 => ⟨⟨by decide, rfl, P.1.kept (fun k q hk => h2 q.1 ((P.1 k q hk).lt))⟩, ?_⟩) P.2.2.2 hc hs
  exact ⟨Nat.le_trans P.2.1 h1, fun q hq hA => (h2 q (Nat.lt_of_lt_of_le hq P.2.1)).trans (P.2.2.1 q hq hA)⟩
theorem at6_eq : vx_atS RX5 240 (exN 6) ["java/lang/RuntimeException", "java/lang/Exception"] = [36, 423, 432, 440, 443, 445, 424, 425, 55, 56, 426, 431, 441, 461, 413, 462, 415, 463, 417, 427, 429, 419, 457, 458, 460, 419, 808, 809, 810, 451, 405, 451, 452, 453, 454, 407, 454, 455, 456, 457, 409, 826, 807, 818, 819, 434, 813, 814, 816, 812, 422, 421, 811].filterMap (fun i => lw_tbl[i]?) := by decide +kernel
theorem at6_ok : (vx_atS RX5 240 (exN 6) ["java/lang/RuntimeException", "java/lang/Exception"]).all (fun w => goodWord w || kwd w) = true := by decide +kernel
theorem at6_in {s : State} {args : Array Value} (hts : ∀ w ∈ AW, w.before args s = true) (h : XF s) : ∀ w ∈ vx_atS RX5 240 (exN 6) ["java/lang/RuntimeException", "java/lang/Exception"], w.before args s = true := fun w hw => by
  have h1 := List.all_eq_true.mp at6_ok w hw
  rw [at6_eq] at hw
  obtain ⟨i, -, hi⟩ := List.mem_filterMap.mp hw
  have hm : w ∈ lw_tbl := List.mem_of_getElem? hi
  rcases Bool.or_eq_true _ _ |>.mp h1 with g | g
  · exact hts w (List.mem_filter.mpr ⟨hm, g⟩)
  · refine va_Nw.use ?_ (h.1 w (List.mem_filter.mpr ⟨hm, g⟩))
    cases w <;> first | rfl | exact absurd (show false = true from g) Bool.false_ne_true
/-- throw new java/lang/ArithmeticException("..") -/
theorem g_throw6 (B : CallFix p m c cc nL s args AW RX5) (F : Fx D ad cy ba s) (P : Wo D ad cy ba s σ H locs) (hx : l.stackTraces = false) {is : Nat} {text : String} (hq : (is, text) ∈ SRL) (hk : k = 6) (hσ : σ = σ') (hl : ls.size = nL) (hlk : meth.locks = false) (ht : ∀ x ∈ c.exceptionTable.toList, False)
    (d0 : decode cc pc = .ok (.new 236, 3)) (d3 : decode cc (pc + 3) = .ok (.dup, 1)) (d4 : decode cc (pc + 4) = .ok (.ldc is, 2)) (d6 : decode cc (pc + 6) = .ok (.invokespecial 240, 3)) (d9 : decode cc (pc + 9) = .ok (.athrow, 1))
    (hRf : 5 < R.frames) (hRl : (rest.map fun v => v.category).sum + 82 ≤ R.locals) (hRc : cells + 1 ≤ R.cells) (hRs : slots + 6 ≤ R.slots) (hc : cells + 1 ≤ nx) (hs : slots + 6 ≤ 6 * nx) : W p l e R s m args below meth c H locs cells slots (vx_MQ below (Qx D ad cy ba k v σ') (Xx D ad cy ba k σ') args s nx (6 * nx) (fun q => ba ≤ q)) (F0 m pc ls rest) := by
  obtain ⟨hexec, hb, hml, hown, hts⟩ := B
  subst hk; subst hσ
  obtain ⟨sa, hsa⟩ := F.2.2.2.1.2.1 _ hq
  refine vx_throwS (cls := exN 6) (names := ["java/lang/RuntimeException", "java/lang/Exception"]) hexec hb hx hown (by decide +kernel) (by decide +kernel) (hts _ q797) (hts _ q21) hsa (at6_in hts F.2.2.2.1) (by decide +kernel) F.2.2.2.2.1 F.2.2.2.2.2 P.2 (hl.trans hml.symm) d0 d3 d4 d6 d9 (fun x hx => (ht x hx).elim) hRf hRl hRc hRs hlk (fun t hvm h1 h2 => ⟨⟨by decide, rfl, P.1.kept (fun k q hk => h2 q.1 ((P.1 k q hk).lt))⟩, ?_⟩) P.2.2.2 hc hs
  exact ⟨Nat.le_trans P.2.1 h1, fun q hq hA => (h2 q (Nat.lt_of_lt_of_le hq P.2.1)).trans (P.2.2.1 q hq hA)⟩
end GENDS
end
section
/-- Met.ofW for a method of a class like java.lang.Math: the method itself is plain -/
theorem Met.ofWF {l : Launch} {y : MethodName} {ws ws' : List Cond} {rm : Room} {Pc : Array Value → State → Prop} {Qc : Array Value → State → Outcome → State → Prop} {mc ms : Nat} {free : Addr → Prop} {cc : ByteArray} {maxL : Nat} {ret : Option FieldType}
    (hy : plainFor y = true) (hw : ws = Cond.code y cc maxL ret :: ws')
    (body : ∀ p e s m args below meth c s₁, BodyLoose p l y (headSpec ws rm) cc maxL ret e s m args below meth c s₁ → c.maxLocals = maxL → Pc args s →
      W p l e (headSpec ws rm).room s m args below meth c s.heap [] 0 0 (MQ below Qc args s mc ms free) (entryFrame m args maxL)) : Met l y ws rm Pc Qc mc ms free := by
  refine MetFree.of_bodySF (code := cc) (maxLocals := maxL) (ret := ret) hy ?_ ?_
  · intro args s m h hn
    obtain ⟨meth, c, h1, h2, h3, h4, h5, h6, -, -⟩ := Cond.code_spec hn (atoms_spec (ws := ws) h _ (by rw [hw]; exact List.mem_cons_self))
    exact ⟨meth, c, h1, h2, h3, h4, h5, h6⟩
  · intro p e s m args below meth c s₁ B hml hP _
    have hh0 : s₁.heap = s.heap := by rw [B.state]; rfl
    obtain ⟨t, a1, o, b1, b2, b3⟩ := body p e s m args below meth c s₁ B hml hP s₁ hh0 (Stand.of_body B)
    exact ⟨t, o, a1, b1, b2, ⟨b3.1, b3.2⟩⟩
theorem Ct.ofF {D : va_G} {ad : Nat → Nat} {cy : Nat → ClassId} {ba : Nat} {l : Launch} {d : Nat} {y : MethodName} {cc : ByteArray} {n : Nat} {ret : Option FieldType} {av : List Value} {σ : Sg} {v : Option Value} {σ' : Sg} (hy : plainFor y = true) (hn : (lg_sl av).length ≤ n)
    (body : ∀ (p : Program) (e : Env) (s : State) (m : MethodId) (below : List Frame) (meth : Method) (c : Code) (ls : Array Slot), CallFix p m c cc n s av.toArray AW y.cls → Fx D ad cy ba s → Wo D ad cy ba s σ s.heap [] → meth.sig.returnType = ret → meth.locks = false → lv_has ls n (lv_args 0 av) →
      W p l e (rmK d 0 0) s m av.toArray below meth c s.heap [] 0 0 (MQ below (Qe D ad cy ba v σ') av.toArray s 0 0 (fun q => ba ≤ q)) (F0 m 0 ls [])) : Ct D ad cy ba l d y cc n ret av σ v σ' := by
  refine Met.ofWF (cc := cc) (maxL := n) (ret := ret) hy rfl ?_
  intro p e s m args below meth c s₁ B hml hv
  obtain ⟨rfl, F, P⟩ := hv
  have hts := atoms_spec (ws := ws_ y cc n ret) B.pre
  rw [lg_entry_eq]
  exact body p e s m below meth c _ ⟨B.exec, B.bytes, hml, findClass_of_methodNamed B.named, fun w h => hts w (List.mem_cons_of_mem _ h)⟩ F ⟨P, va_S.rf⟩ B.returns B.notSynchronized (lv_entry av hn)
theorem g_getiv {p : Program} {l : Launch} {e : Env} {R : Room} {s : State} {m : MethodId} {args : Array Value} {below : List Frame} {meth : Method} {c : Code} {H : Heap} {locs : List Loc} {cells slots : Nat} {Q : State → Prop} {cc : ByteArray} {nL pc : Nat} {own : String} {ls : Array Slot} {rest : List Value} {D : va_G} {ad : Nat → Nat} {cy : Nat → ClassId} {ba : Nat} {σ : Sg} (B : CallFix p m c cc nL s args AW own) (F : Fx D ad cy ba s) (P : Wo D ad cy ba s σ H locs) {i ci k index N : Nat} {C : String} {T : u_T} {v : Int32} (o : clsOk ci C T N) (hi : i < 81) (hk : kd i = ci) (hs : sk ci k = 0) (hN : nf ci = N) (hkN : k < N) (q : Cond.fieldLink own index (T k).1 (T k).2.1 (T k).2.2.1 ∈ AW) (d : decode cc pc = .ok (.getfield index, 3)) (hv : rI σ i k = v)
    (kk : W p l e R s m args below meth c H locs cells slots Q (F0 m (pc + 3) ls (.int v :: rest))) : W p l e R s m args below meth c H locs cells slots Q (F0 m pc ls (.ref (ad i) :: rest)) := g_geti B F P o hi hk hs hN hkN q d (by rw [hv]; exact kk)
theorem g_getlv {p : Program} {l : Launch} {e : Env} {R : Room} {s : State} {m : MethodId} {args : Array Value} {below : List Frame} {meth : Method} {c : Code} {H : Heap} {locs : List Loc} {cells slots : Nat} {Q : State → Prop} {cc : ByteArray} {nL pc : Nat} {own : String} {ls : Array Slot} {rest : List Value} {D : va_G} {ad : Nat → Nat} {cy : Nat → ClassId} {ba : Nat} {σ : Sg} (B : CallFix p m c cc nL s args AW own) (F : Fx D ad cy ba s) (P : Wo D ad cy ba s σ H locs) {i ci k index N : Nat} {C : String} {T : u_T} {v : Int64} (o : clsOk ci C T N) (hi : i < 81) (hk : kd i = ci) (hs : sk ci k = 1) (hN : nf ci = N) (hkN : k < N) (q : Cond.fieldLink own index (T k).1 (T k).2.1 (T k).2.2.1 ∈ AW) (d : decode cc pc = .ok (.getfield index, 3)) (hv : rL σ i k = v)
    (kk : W p l e R s m args below meth c H locs cells slots Q (F0 m (pc + 3) ls (.long v :: rest))) : W p l e R s m args below meth c H locs cells slots Q (F0 m pc ls (.ref (ad i) :: rest)) := g_getl B F P o hi hk hs hN hkN q d (by rw [hv]; exact kk)
end
section
section NSE
variable {p : Program} {l : Launch} {e : Env} {R : Room} {s : State} {m₀ : MethodId} {args : Array Value} {below : List Frame} {meth : Method} {c : Code} {W : State} {locs : List Loc} {cells slots : Nat}
set_option maxHeartbeats 4000000 in
theorem nse_ctor (X : Stand p l e R s m₀ args below meth c W locs cells slots) (hexec : p.tables.exec = Jvm.exec) (htr : e.platform.stackTraces = false) {own cls : String} {names : List String} {ic : Nat}
    {ix : Nat} {rx : ByteArray} (x0 : decode rx 0 = .ok (.aload_n 0, 1)) (x1 : decode rx 1 = .ok (.aload_n 1, 1)) (x2 : decode rx 2 = .ok (.invokespecial ix, 3)) (x5 : decode rx 5 = .ok (.return_, 1))
    (hown : s.vm.findClass own = some m₀.cls) (hcls : Bundle.fit cls = true) (hnames : ∀ n ∈ names, Bundle.fit n = true)
    (h : ∀ a ∈ Bundle.ownAtomsX own ic cls ix rx names, a.before args s = true)
    (hlocs : ∀ x ∈ locs, ∀ cell, s.heap[x.base]? = some cell → cell.vm.isStatics = false)
    {a : Addr} {cX : ClassId} {kX : Class} (hfoundX : s.vm.findClass cls = some cX) (hkX : s.vm.classes[cX]? = some kX) (hcell : W.heap[a]? = some (freshCell cX kX)) (hnew : s.heap.size ≤ a)
    {msg : Value} (hmsg : msg.isRef = true)
    {g : JFrame} (hg : g.method = m₀) (hsize : g.locals.size = c.maxLocals) (hlocked : g.locked = none) (hentered : g.entered = []) {rest : List Value} (hstack : g.stack = msg :: .ref a :: .ref a :: rest)
    (hd6 : decode c.code g.pc = .ok (.invokespecial ic, 3)) (hd9 : decode c.code (g.pc + 3) = .ok (.athrow, 1)) (hout : ∀ x ∈ c.exceptionTable.toList, covers x (g.pc + 3) = false)
    (hRframes : names.length + 3 < R.frames) (hRlocals : 2 * g.monitorRoom + ((Value.ref a :: rest).map fun v => v.category).sum + (13 * (names.length + 1) + 42) ≤ R.locals) (hlocks : meth.locks = false) :
    ∃ U : State, Steps p.tables e below (W.setTop g) U ∧ U.status = .running ∧ Ended U below (.threw a) ∧ s.WarmedH U.vm ∧ s.sameButNew ({ U with vm := s.vm } : State) locs cells slots ∧
      ∃ ce, U.heap[a]? = some ce ∧ ce.vm = .none ∧ s.vm.findClass cls = some ce.cls := by
  have howns : e.platform.frameOwnsMonitors = true := by rw [X.admits.platform]
  have hfin : e.platform.finalization = false := by rw [X.admits.platform]
  have hpl : e.platform.magicAccessors = ({} : Platform).magicAccessors := by rw [X.admits.platform]
  have a' : ∀ x, x ∈ Bundle.ownAtomsX own ic cls ix rx names → x.holds args s none s [] = true := fun x hx => h x hx
  obtain ⟨T, Z0, L, -, Y⟩ := ThrowableC.of_atoms (args := args) howns hfin hpl (fun x hx => h x (by simp [Bundle.ownAtomsX, hx]))
  obtain ⟨Z, M, LZ, LM, hnZ⟩ := Init0T.ofS_atoms (args := args) hpl L Y (fun x hx => h x (by simp [Bundle.ownAtomsX, hx]))
  obtain ⟨P1, Ps, hlen, L1, hL, hP1m, hlink1, hlink⟩ := Bundle.chainSX (args := args) hpl hnZ x0 x1 x2 x5 names cls hcls hnames (fun x hx => h x (by simp [Bundle.ownAtomsX, hx]))
  have hfound : s.vm.findClass cls = some P1.m.cls := findClass_of_methodNamed hP1m
  cases Option.some.inj (hfoundX.symm.trans hfound)
  obtain ⟨c1, kX', hc1, hk, hord, -, -, hn6⟩ := Cond.instantiable_spec (a' (.instantiable cls 6) (by simp [Bundle.ownAtomsX]))
  cases Option.some.inj (hc1.symm.trans hfound)
  cases Option.some.inj (hkX.symm.trans hk)
  have hsel0 : selectMethod e.platform s.vm P1.m.cls T.fill0 = .method T.fill0 := by
    obtain ⟨c2, r2, m2, q1, q2, q3, q4, -⟩ := Cond.selects_spec (a' (.selects cls Bundle.tFill0 Bundle.tFill0) (by simp [Bundle.ownAtomsX]))
    cases Option.some.inj (q1.symm.trans hfound)
    cases Option.some.inj (q2.symm.trans (State.methodFound?_of_named Y.fill0 (by decide)))
    cases Option.some.inj (q3.symm.trans Y.fill0)
    rw [Launch.admits_selectMethod X.admits]; exact q4
  have hselF : selectMethod e.platform s.vm P1.m.cls T.fill = .method T.fill := by
    obtain ⟨c2, r2, m2, q1, q2, q3, q4, -⟩ := Cond.selects_spec (a' (.selects cls Bundle.tFill Bundle.tFill) (by simp [Bundle.ownAtomsX]))
    cases Option.some.inj (q1.symm.trans hfound)
    cases Option.some.inj (q2.symm.trans (State.methodFound?_of_named Y.fill (by decide)))
    cases Option.some.inj (q3.symm.trans Y.fill)
    rw [Launch.admits_selectMethod X.admits]; exact q4
  obtain ⟨cellS0, hcS0, hiss⟩ := Y.statics
  obtain ⟨u0, hu0⟩ := Cond.staticRefV Y.unassigned L.unassignedStatic L.statics hcS0 hiss (a' (.isRef (.static Bundle.tN "UNASSIGNED_STACK" Bundle.steD)) (by simp [Bundle.ownAtomsX]))
  obtain ⟨sen, hsen⟩ := Cond.staticRefV Y.sentinel L.sentinelStatic L.statics hcS0 hiss (a' (.isRef (.static Bundle.tN "SUPPRESSED_SENTINEL" Bundle.listD)) (by simp [Bundle.ownAtomsX]))
  obtain ⟨ci198, i198, fB, hk198, hg198, ha198, hsB, -, hnB, htB, hffB⟩ := Cond.ownField (t := .object "java/lang/Object") Y.found L.cls (by decide +kernel) (a' (.fieldLink Bundle.tN 198 Bundle.tN "backtrace" "Ljava/lang/Object;") (by simp [Bundle.ownAtomsX])) (a' (.lays Bundle.tN Bundle.tN "backtrace" "Ljava/lang/Object;") (by simp [Bundle.ownAtomsX])) e.platform hpl
  obtain ⟨cellS, hcS', heS, -, hkeep⟩ := X.same.2.2.2.2.2 T.aS cellS0 hcS0
  have hcellS : W.heap[T.aS]? = some cellS := hcS'
  have hout' : ∀ i, (⟨T.aS, i⟩ : Loc) ∉ locs := fun i hmem => by
    have := hlocs _ hmem cellS0 hcS0
    rw [hiss] at this; cases this
  have hknownS : cellS.vm ≠ .unknown := by
    rw [heS]; intro hu
    rw [show cellS0.vm = .unknown from hu] at hiss
    cases hiss
  have hneS : T.aS ≠ a := Nat.ne_of_lt (Nat.lt_of_lt_of_le (Array.getElem?_eq_some_iff.mp hcS0).1 hnew)
  obtain ⟨iM, hffM⟩ := Y.msg
  obtain ⟨tyC, dC, hdC, hdnC⟩ := Cond.laysAt hfound hk Y.cause (a' (.lays cls Bundle.tN "cause" "Ljava/lang/Throwable;") (by simp [Bundle.ownAtomsX]))
  obtain ⟨tyS, dS, hdS, hdnS⟩ := Cond.laysAt hfound hk Y.stack (a' (.lays cls Bundle.tN "stackTrace" Bundle.steD) (by simp [Bundle.ownAtomsX]))
  obtain ⟨tyP, dP, hdP, hdnP⟩ := Cond.laysAt hfound hk Y.supp (a' (.lays cls Bundle.tN "suppressedExceptions" Bundle.listD) (by simp [Bundle.ownAtomsX]))
  obtain ⟨tyM, dM, hdM, hdnM⟩ := Cond.laysAt hfound hk hffM (a' (.lays cls Bundle.tN "detailMessage" "Ljava/lang/String;") (by simp [Bundle.ownAtomsX]))
  obtain ⟨tyB, dB, hdB, hdnB⟩ := Cond.laysAt hfound hk hffB (a' (.lays cls Bundle.tN "backtrace" "Ljava/lang/Object;") (by simp [Bundle.ownAtomsX]))
  have bC := Cond.laysApart hdB hdC hdnB hdnC (by rw [hnB, Y.causeName]; decide)
  have bS := Cond.laysApart hdB hdS hdnB hdnS (by rw [hnB, Y.stackName]; decide)
  have bP := Cond.laysApart hdB hdP hdnB hdnP (by rw [hnB, Y.suppName]; decide)
  have hskip : SkipFacts T e.platform s (fun u => u) u0 ((preparedCellV T.toThrowableT (freshCell P1.m.cls kX) a u0 sen).withEntry W.cur) :=
    ⟨{ ci198 := ci198, i198 := i198, fBack := fB }, ⟨hk198, hg198, ha198, hsB⟩, by
      have := fresh_default (c := P1.m.cls) tyB
      rw [htB] at this
      simpa [preparedCellV, Cell.setSlot, Cell.withEntry, Array.getElem?_setIfInBounds, bC, bS, bP, bC.symm, bS.symm, bP.symm, defaultValue] using this, fun _ _ => rfl⟩
  obtain ⟨tm, methC, cdC, kC, vm₁, hnC, -, -, -, -, -, -, -, hW₁, st1⟩ := Steps.initColdS (tb := p.tables) (e := e) (below := below) (s := s) (U := W) X.here hexec X.warmed hpl hown (t := Bundle.initS cls) rfl rfl (Bundle.fit_spec hcls).2
    (a' (.methodLink own ic (Bundle.initS cls)) (by simp [Bundle.ownAtomsX])) (h (.instanceMethod (Bundle.initS cls)) (by cases names <;> simp [Bundle.ownAtomsX, Bundle.chainSAtomsX, Bundle.passSAtoms])) (bytes := rx) (maxL := 2) (h (.code (Bundle.initS cls) rx 2 none) (by cases names <;> simp [Bundle.ownAtomsX, Bundle.chainSAtomsX, Bundle.passSAtoms]))
    (f := g) hg (a := a) (msg := msg) (rest := .ref a :: rest) hstack hd6
  cases Option.some.inj (hnC.symm.trans hP1m)
  have X₁ := X.noted hW₁
  obtain ⟨vm₂, X₂, st2⟩ := X₁.ctorMessageOffV hexec (g := { g with stack := .ref a :: rest }) hg hsize T L Z LZ M LM (P1 :: Ps)
    (fun P hP => by rcases List.mem_cons.mp hP with rfl | hP; exact L1; exact hL P hP) ⟨hlink1, hlink⟩ (u0 := u0) (sen := sen) (self := a) hmsg (cell := freshCell P1.m.cls kX) (cellS := cellS)
    hcell (fun _ => by simp) (by simp) rfl rfl hsel0 hselF hcellS hneS hknownS (by rw [hkeep _ (hout' _)]; exact hu0) (by rw [hkeep _ (hout' _)]; exact hsen)
    (Takes.of_laid hk hord tyC (by rw [Y.causeType]; rfl)) (Takes.of_laid hk hord tyS (by rw [Y.stackType]; exact fits_refV_array _ u0)) (Takes.of_laid hk hord tyP (by rw [Y.suppType]; exact fits_refV_object _ sen))
    (Takes.of_laid hk hord tyM (by rw [Y.msgType]; exact fits_refV_object _ ⟨msg, hmsg⟩)) Y.objLocals hskip htr [] hd6
    (by simp only [List.length_cons, hlen]; omega) (by simp only [List.length_cons, hlen]; exact hRlocals)
  obtain ⟨hwalk, hrun, hended, hWU, hsame⟩ := X₂.athrowLeaves hexec (g := { g with stack := .ref a :: rest, pc := g.pc + 3 }) hg hlocked hentered hout (a := a) (rest := rest) rfl hd9
  have hlt : a < ((W.setVm vm₁).setVm vm₂).heap.size := (Array.getElem?_eq_some_iff.mp hcell).1
  have hU := heapAt_setCell_self (s := (W.setVm vm₁).setVm vm₂) (plainBareV T.toThrowableT (freshCell P1.m.cls kX) a u0 sen msg) hlt
  refine ⟨_, st1 _ (fun acts => ?_), hrun, hended, hWU, hsame.weaken (fun y hy hlt' => ?_) (Nat.le_refl _) (Nat.le_refl _), _, hU, rfl, hfound⟩
  · rw [doInvoke_state]
    exact st2 _ hwalk
  · rcases List.mem_append.mp hy with h1 | h1
    · exact h1
    · exfalso
      have hb : y.base = a := by
        simp only [List.mem_cons, List.not_mem_nil, or_false] at h1
        rcases h1 with rfl | rfl | rfl | rfl | rfl <;> rfl
      rw [hb] at hlt'
      exact Nat.not_lt.mpr hnew hlt'
end NSE
def at5 : List Cond := (Bundle.ownAtomsX RX5 189 (exN 5) 13 prog_23_method_4_code ["java/lang/RuntimeException", "java/lang/Exception"]).filter vx_no
theorem at5_eq : at5 = [36, 423, 432, 440, 443, 445, 424, 425, 55, 56, 426, 431, 441, 461, 413, 462, 415, 463, 417, 427, 429, 419, 457, 458, 460, 419, 758, 759, 760, 451, 405, 451, 452, 453, 454, 407, 454, 455, 456, 457, 409, 757, 748, 749, 750, 439, 751, 752, 753, 754, 422, 421, 755].filterMap (fun i => lw_tbl[i]?) := by decide +kernel
theorem at5_ok : at5.all (fun w => goodWord w || kwd w) = true := by decide +kernel
theorem at5_ot : (Cond.classLink RX5 185 (exN 5) :: Cond.initialized (exN 5) :: at5).all vx_ot = true := by decide +kernel
theorem at5_in {s : State} {args : Array Value} (hts : ∀ w ∈ AW, w.before args s = true) (h : XF s) : ∀ w ∈ at5, w.before args s = true := fun w hw => by
  have h1 := List.all_eq_true.mp at5_ok w hw
  rw [at5_eq] at hw
  obtain ⟨i, -, hi⟩ := List.mem_filterMap.mp hw
  have hm : w ∈ lw_tbl := List.mem_of_getElem? hi
  rcases Bool.or_eq_true _ _ |>.mp h1 with g | g
  · exact hts w (List.mem_filter.mpr ⟨hm, g⟩)
  · refine va_Nw.use ?_ (h.1 w (List.mem_filter.mpr ⟨hm, g⟩))
    cases w <;> first | rfl | exact absurd (show false = true from g) Bool.false_ne_true
set_option maxHeartbeats 4000000 in
theorem nse_throw {p : Program} {l : Launch} {e : Env} {R : Room} {s : State} {m : MethodId} {args : Array Value} {below : List Frame} {meth : Method} {c : Code} {H : Heap} {locs : List Loc} {cells slots : Nat} {ls : Array Slot} {rest : List Value} {free : Addr → Prop} {Qc : Array Value → State → Outcome → State → Prop} {XC : String → State → State → Prop} {cc : ByteArray} {pc : Nat} (hexec : p.tables.exec = Jvm.exec) (hb : c.code = cc) (hl : l.stackTraces = false) {own cls text : String} {names : List String} {ik is ic mc ms sa : Nat} {A : Nat → Prop} (ew : own = RX5) (ec : cls = exN 5) (en : names = ["java/lang/RuntimeException", "java/lang/Exception"]) (ei : ic = 189)
    (hown : s.vm.findClass own = some m.cls) (hcls : Bundle.fit cls = true) (hnames : ∀ n ∈ names, Bundle.fit n = true)
    (hk : (Cond.classLink own ik cls).before args s = true) (hini : (Cond.initialized cls).before args s = true) (hstr : vk_R own is text sa s) (hat : ∀ w ∈ at5, w.before args s = true)
    (hgood : ∀ w ∈ Cond.classLink own ik cls :: Cond.initialized cls :: at5, vx_ot w = true)
    (hU : vx_Zq Bundle.tN "UNASSIGNED_STACK" Bundle.steD A s s.heap) (hN : vx_Zq Bundle.tN "SUPPRESSED_SENTINEL" Bundle.listD A s s.heap) (hS : va_S A s.heap H locs) (hsize : ls.size = c.maxLocals)
    (d0 : decode cc pc = .ok (.new ik, 3)) (d3 : decode cc (pc + 3) = .ok (.dup, 1)) (d4 : decode cc (pc + 4) = .ok (.ldc is, 2)) (d6 : decode cc (pc + 6) = .ok (.invokespecial ic, 3)) (d9 : decode cc (pc + 9) = .ok (.athrow, 1))
    (hout : ∀ x ∈ c.exceptionTable.toList, covers x (pc + 9) = false)
    (hRframes : names.length + 3 < R.frames) (hRlocals : (rest.map fun v => v.category).sum + (13 * (names.length + 1) + 43) ≤ R.locals) (hRcells : cells + 1 ≤ R.cells) (hRslots : slots + 6 ≤ R.slots) (hlocks : meth.locks = false)
    (hx : ∀ t : State, s.vm.Alike t.vm → H.size ≤ t.heap.size → (∀ q : Nat, q < H.size → t.heap[q]? = H[q]?) → XC cls s t)
    (hf : ∀ z ∈ locs, free z.base) (hc : cells + 1 ≤ mc) (hs : slots + 6 ≤ ms) :
    W p l e R s m args below meth c H locs cells slots (vx_MQ below Qc XC args s mc ms free) (F0 m pc ls rest) := by
  intro T hT X
  have htr : e.platform.stackTraces = false := (show e.platform.stackTraces = l.stackTraces by rw [X.admits.platform]).trans hl
  have Y := vx_rebase X (R' := { frames := R.frames, locals := R.locals, cells := 1, slots := 6 }) (Nat.le_refl _) (Nat.le_refl _) hRcells hRslots
  obtain ⟨s', hA⟩ : ∃ z, z = (T.setVm s.vm).setFrames (.invoking m args :: below) := ⟨_, rfl⟩
  rw [← hA] at Y
  have hvm : s'.vm = s.vm := by rw [hA]; rfl
  have hhp : s'.heap = H := by rw [hA]; exact hT
  have hW0 : s.WarmedH s'.vm := by rw [hvm]; exact State.WarmedH.refl s
  have hat' : ∀ w ∈ at5, w.before args s' = true := fun w hw => vx_ot_at hW0 hvm.symm (hgood w (List.mem_cons_of_mem _ (List.mem_cons_of_mem _ hw))) (hat w hw)
  have hk' : (Cond.classLink own ik cls).before args s' = true := vx_ot_at hW0 hvm.symm (hgood _ List.mem_cons_self) hk
  have hini' : (Cond.initialized cls).before args s' = true := vx_ot_at hW0 hvm.symm (hgood _ (List.mem_cons_of_mem _ List.mem_cons_self)) hini
  have hU' : vx_Zq Bundle.tN "UNASSIGNED_STACK" Bundle.steD A s' s'.heap := by rw [hhp]; exact vx_Zq.moved hW0.alike (hU.kept hS.2.1)
  have hN' : vx_Zq Bundle.tN "SUPPRESSED_SENTINEL" Bundle.listD A s' s'.heap := by rw [hhp]; exact vx_Zq.moved hW0.alike (hN.kept hS.2.1)
  have h0 : at5 = (Bundle.ownAtomsX own ic cls 13 prog_23_method_4_code names).filter vx_no := by rw [ew, ec, en, ei]; rfl
  rw [h0] at hat'
  have h : ∀ w ∈ Bundle.ownAtomsX own ic cls 13 prog_23_method_4_code names, w.before args s' = true := vx_own hat' (vx_isRefq hU'.1) (vx_isRefq hN'.1) hU'.2.word hN'.2.word
  have hown' : s'.vm.findClass own = some m.cls := by rw [hvm]; exact hown
  have hins : (Cond.instantiable cls 6).before args s' = true := h _ (by simp [Bundle.ownAtomsX])
  obtain ⟨vm₁, cX, kX, hfX, hkX, -, -, X₁, st1⟩ := Y.newCold hexec (own := own) (C := cls) (index := ik) (n := 6) hown' hk' hins hini'
    (g := F0 m pc ls rest) rfl (by rw [hb]; exact d0) (Nat.le_refl _) (Nat.le_refl _)
  generalize hT1 : (T.setVm vm₁).pushCell { cls := cX, slots := kX.instanceTypes.map defaultValue, vm := .none } = T1 at X₁ st1
  have hcat : (Value.ref T.heap.size).category = 1 := rfl
  have hcellA : T1.heap[T.heap.size]? = some (freshCell cX kX) := by rw [← hT1]; exact State.heap_pushCell_size _ _
  have d3' : decode c.code (pc + 3) = .ok (.dup, 1) := by rw [hb]; exact d3
  have d4' : decode c.code (pc + 4) = .ok (.ldc is, 2) := by rw [hb]; exact d4
  have hstr' : vk_R own is text sa s' := vk_R.warm hW0 hstr
  obtain ⟨U, hsteps, hrun, hend, hW, hsame, ce, hce, hOvm, hOcls⟩ := nse_ctor X₁ hexec htr (rx := prog_23_method_4_code) (by decide +kernel) (by decide +kernel) (by decide +kernel) (by decide +kernel) (own := own) (cls := cls) (names := names) (ic := ic) hown' hcls hnames h (fun x hx => nomatch hx) hfX hkX hcellA (by rw [hhp, hT]; exact Nat.le_refl _) (msg := .ref sa) rfl
    (g := { method := m, pc := pc + 6, locals := ls, stack := .ref sa :: .ref T.heap.size :: .ref T.heap.size :: rest, locked := none }) rfl hsize rfl rfl (rest := rest) rfl
    (by rw [hb]; exact d6) (by rw [hb]; exact d9) hout hRframes (by simp only [List.map_cons, List.sum_cons, hcat]; omega) hlocks
  obtain ⟨f1, f2⟩ := vx_frame hsame
  rw [hhp] at f1 f2
  have hWs : s.WarmedH U.vm := State.WarmedH.trans hW0 hW
  have hcl : s.vm.findClass cls = some ce.cls := by
    have h9 := hOcls
    rw [hvm] at h9
    exact h9
  have hall : s.sameButNew ({ U with vm := s.vm } : State) locs mc ms := by
    subst hA
    obtain ⟨e1, e2⟩ := hsame
    rw [State.setFrames_setFrames] at e1
    have h2 : (T.setVm s.vm).sameButNew ({ U with vm := s.vm } : State) [] (0 + 1) (0 + 6) := ⟨e1, e2⟩
    have h3 := X.same.trans h2
    rw [List.append_nil] at h3
    exact h3.mono hc hs
  refine ⟨U, ?_, .threw T.heap.size, hrun, hend, Or.inr ⟨T.heap.size, rfl, cls, ce, locs, hx U hWs.alike f1 (fun q hq => f2 q hq (fun z hz => nomatch hz)), hce, hOvm, hcl, hWs, hall, hf⟩⟩
  refine st1 _ ?_
  show Steps p.tables e below (T1.setTop { method := m, pc := pc + 3, locals := ls, stack := .ref T.heap.size :: rest, locked := none }) _
  jvm_step X₁.here [X₁.here.top, hexec, d3', Value.category]
  exact X₁.ldcString hexec (own := own) (text := text) (index := is) (a := sa) hown' hstr'.1 hstr'.2
    (g := { method := m, pc := pc + 4, locals := ls, stack := .ref T.heap.size :: .ref T.heap.size :: rest, locked := none }) rfl d4' _ hsteps
theorem g_throw5 {p : Program} {l : Launch} {e : Env} {R : Room} {s : State} {m : MethodId} {args : Array Value} {below : List Frame} {meth : Method} {c : Code} {H : Heap} {locs : List Loc} {cells slots : Nat} {cc : ByteArray} {nL pc : Nat} {ls : Array Slot} {rest : List Value} {D : va_G} {ad : Nat → Nat} {cy : Nat → ClassId} {ba : Nat} {σ σ' : Sg} {v : Option Value} {k nx : Nat} (B : CallFix p m c cc nL s args AW RX5) (F : Fx D ad cy ba s) (P : Wo D ad cy ba s σ H locs) (hx : l.stackTraces = false) {is : Nat} {text : String} (hq : (is, text) ∈ SRL) (hk : k = 5) (hσ : σ = σ') (hl : ls.size = nL) (hlk : meth.locks = false) (ht : ∀ x ∈ c.exceptionTable.toList, False)
    (d0 : decode cc pc = .ok (.new 185, 3)) (d3 : decode cc (pc + 3) = .ok (.dup, 1)) (d4 : decode cc (pc + 4) = .ok (.ldc is, 2)) (d6 : decode cc (pc + 6) = .ok (.invokespecial 189, 3)) (d9 : decode cc (pc + 9) = .ok (.athrow, 1))
    (hRf : 5 < R.frames) (hRl : (rest.map fun v => v.category).sum + 82 ≤ R.locals) (hRc : cells + 1 ≤ R.cells) (hRs : slots + 6 ≤ R.slots) (hc : cells + 1 ≤ nx) (hs : slots + 6 ≤ 6 * nx) : W p l e R s m args below meth c H locs cells slots (vx_MQ below (Qx D ad cy ba k v σ') (Xx D ad cy ba k σ') args s nx (6 * nx) (fun q => ba ≤ q)) (F0 m pc ls rest) := by
  obtain ⟨hexec, hb, hml, hown, hts⟩ := B
  subst hk; subst hσ
  obtain ⟨sa, hsa⟩ := F.2.2.2.1.2.1 _ hq
  refine nse_throw (cls := exN 5) (names := ["java/lang/RuntimeException", "java/lang/Exception"]) hexec hb hx rfl rfl rfl rfl hown (by decide +kernel) (by decide +kernel) (hts _ q720) (hts _ q20) hsa (at5_in hts F.2.2.2.1) (fun w hw => List.all_eq_true.mp at5_ot w hw) F.2.2.2.2.1 F.2.2.2.2.2 P.2 (hl.trans hml.symm) d0 d3 d4 d6 d9 (fun x hx => (ht x hx).elim) hRf hRl hRc hRs hlk (fun t hvm h1 h2 => ⟨⟨by decide, rfl, P.1.kept (fun k q hk => h2 q.1 ((P.1 k q hk).lt))⟩, ?_⟩) P.2.2.2 hc hs
  exact ⟨Nat.le_trans P.2.1 h1, fun q hq hA => (h2 q (Nat.lt_of_lt_of_le hq P.2.1)).trans (P.2.2.1 q hq hA)⟩
end
