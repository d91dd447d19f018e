/-! ===== the reference's methods: code, callees, a rule an instruction, soundness ===== -/
def rf_P (P : mP rf_M) : mP rf_M := fun as s mc ms ret => as.head? = some (.inr (some 39)) ∧ P as s mc ms ret
theorem rf_So {l : Launch} {D : va_G} {cs sa ad : Nat → Nat} {A : Nat → Prop} {y : MethodName} {cc : ByteArray} {nL n : Nat} {rt : Option FieldType} {P : mP rf_M} (h : mm_So l (rf_W D cs ad A) (kk D cs sa A) ad A y cc nL rt n P) : mm_So l (rf_W D cs ad A) (kk D cs sa A) ad A y cc nL rt n (rf_P P) := fun as s mc ms ret hP => h as s mc ms ret hP.2
def mm_chk (cc : ByteArray) (cd : mC) : Bool := cd.all (fun q => decide (decode cc q.1 = .ok q.2) && (mm_okl q.2.1 q.2.2 && (match q.2.1 with
  | .if_acmp _ _ => false
  | _ => true)))
theorem mm_lk_mem {cd : mC} {pc : Nat} {ins : Instr} {len : Nat} (h : mm_lk cd pc = some (ins, len)) : (pc, ins, len) ∈ cd := by
  unfold mm_lk at h
  cases hf : cd.find? (fun q => q.1 == pc) with
  | none => rw [hf] at h; cases h
  | some q =>
    rw [hf] at h
    have h1 := List.find?_some hf
    have h2 := List.mem_of_find?_eq_some hf
    obtain ⟨q1, q2⟩ := q
    have h3 : q2 = (ins, len) := Option.some.inj h
    have h4 : q1 = pc := by simpa using h1
    subst h3; subst h4
    exact h2
theorem rf_sound {l : Launch} {D : va_G} {cs sa ad : Nat → Nat} {A : Nat → Prop} {nm ds : String} {cc : ByteArray} {nL n rk : Nat} {rt : Option FieldType} {cd : mC} {sp : mQ rf_M} (_ : nL ≤ 21) (hchk : mm_chk cc cd = true) (hrt : mm_rk rk rt)
    (CS : ∀ (p : Program) (e : Env) (mc ms : Nat) (s0 : State) (m : MethodId) (args : Array Value) (below : List Frame) (meth : Method) (c : Code), CallFix p m c cc nL s0 args tb RX7 → kk D cs sa A s0 → (∀ q : Nat, s0.heap.size ≤ q → A q) → ∀ q ∈ sp, mm_CS p l e (mm_rm n mc ms) s0 m args below meth c cc nL (rf_W D cs ad A) ad A q) :
    mm_So l (rf_W D cs ad A) (kk D cs sa A) ad A ⟨RX7, nm, ds⟩ cc nL rt n (mm_Pm rk cd rf_hk sp nL) := by
  have key : ∀ pc ins len, mm_lk cd pc = some (ins, len) → decode cc pc = .ok (ins, len) ∧ mm_okl ins len = true ∧ (match ins with
      | .if_acmp _ _ => false
      | _ => true) = true := by
    intro pc ins len h
    have h1 := List.all_eq_true.mp hchk _ (mm_lk_mem h)
    simp only [Bool.and_eq_true, decide_eq_true_eq] at h1
    exact h1
  refine mm_sound (show plainName RX7 = true by decide +kernel) (fun pc ins len h => (key pc ins len h).1) (fun pc ins len h => (key pc ins len h).2.1) (Or.inr (fun pc d o len h => ?_)) hrt (fun p e R s0 m args below meth c Q F _ hK hA => rf_HS F hK) CS
  have := (key pc _ _ h).2.2
  cases this
theorem rf_recv {D : va_G} {cs sa ad : Nat → Nat} {A : Nat → Prop} {s0 : State} {na : Nat} {P : mP rf_M} (hK : kk D cs sa A s0) (as : List mV) (s : rf_M) (mc ms : Nat) (ret : Option mV → rf_M → Prop) (h : rf_P P as s mc ms ret) (_ : as.length = na + 1) : ∃ (b : Nat) (as' : List mV), as = .inr (some b) :: as' ∧ ∀ H : Heap, rf_W D cs ad A s H → ∃ cellB : Cell, H[ad b]? = some cellB ∧ cellB.vm.isStatics = false ∧ s0.vm.findClass RX7 = some cellB.cls := by
  obtain ⟨h1, -⟩ := h
  cases as with
  | nil => cases h1
  | cons v as' =>
    cases h1
    exact ⟨39, as', rfl, fun H hW => va_recv hK.1 hW.1 (ci := 7) (q0 := 0) rfl rfl⟩
/-! in -/
def cd_in : mC := [(0, .iload_n 0, 1), (1, .iload_n 1, 1), (2, .if_icmp .lt 12, 3), (5, .iload_n 0, 1), (6, .iload_n 2, 1), (7, .if_icmp .gt 7, 3), (10, .iconst 1, 1), (11, .goto 4, 3), (14, .iconst 0, 1), (15, .ireturn, 1)]
def sp_in : mQ rf_M := []
def W_in (ret : Option mV → rf_M → Prop) : mX rf_M → Prop := mm_W 2 cd_in rf_hk sp_in ret
def P_in : mP rf_M := mm_Pm 2 cd_in rf_hk sp_in 3
theorem r_in_0 (ret : Option mV → rf_M → Prop) (μ : rf_M) (y : Int32) (l1 l2 : Option mV) : W_in ret (0, [some (.inl y), l1, l2], [], μ, 0, 0) = W_in ret (1, [some (.inl y), l1, l2], [.inl y], μ, 0, 0) := mm_W_eq rf_hk_mono _
theorem r_in_1 (ret : Option mV → rf_M → Prop) (μ : rf_M) (x0 y : Int32) (l0 l2 : Option mV) : W_in ret (1, [l0, some (.inl y), l2], [.inl x0], μ, 0, 0) = W_in ret (2, [l0, some (.inl y), l2], [.inl y, .inl x0], μ, 0, 0) := mm_W_eq rf_hk_mono _
theorem r_in_2 (ret : Option mV → rf_M → Prop) (μ : rf_M) (x0 x1 : Int32) (ls : List (Option mV)) : W_in ret (2, ls, [.inl x0, .inl x1], μ, 0, 0) = ((x1 < x0 → W_in ret (14, ls, [], μ, 0, 0)) ∧ (¬ x1 < x0 → W_in ret (5, ls, [], μ, 0, 0))) := mm_W_eq rf_hk_mono _
theorem r_in_5 (ret : Option mV → rf_M → Prop) (μ : rf_M) (y : Int32) (l1 l2 : Option mV) : W_in ret (5, [some (.inl y), l1, l2], [], μ, 0, 0) = W_in ret (6, [some (.inl y), l1, l2], [.inl y], μ, 0, 0) := mm_W_eq rf_hk_mono _
theorem r_in_6 (ret : Option mV → rf_M → Prop) (μ : rf_M) (x0 y : Int32) (l0 l1 : Option mV) : W_in ret (6, [l0, l1, some (.inl y)], [.inl x0], μ, 0, 0) = W_in ret (7, [l0, l1, some (.inl y)], [.inl y, .inl x0], μ, 0, 0) := mm_W_eq rf_hk_mono _
theorem r_in_7 (ret : Option mV → rf_M → Prop) (μ : rf_M) (x0 x1 : Int32) (ls : List (Option mV)) : W_in ret (7, ls, [.inl x0, .inl x1], μ, 0, 0) = ((x0 < x1 → W_in ret (14, ls, [], μ, 0, 0)) ∧ (¬ x0 < x1 → W_in ret (10, ls, [], μ, 0, 0))) := mm_W_eq rf_hk_mono _
theorem r_in_10 (ret : Option mV → rf_M → Prop) (μ : rf_M) (ls : List (Option mV)) : W_in ret (10, ls, [], μ, 0, 0) = W_in ret (11, ls, [.inl (nI 1)], μ, 0, 0) := mm_W_eq rf_hk_mono _
set_option maxRecDepth 8000 in
theorem r_in_11 (ret : Option mV → rf_M → Prop) (μ : rf_M) (x0 : Int32) (ls : List (Option mV)) : W_in ret (11, ls, [.inl x0], μ, 0, 0) = W_in ret (15, ls, [.inl x0], μ, 0, 0) := mm_W_eq rf_hk_mono _
theorem r_in_14 (ret : Option mV → rf_M → Prop) (μ : rf_M) (ls : List (Option mV)) : W_in ret (14, ls, [], μ, 0, 0) = W_in ret (15, ls, [.inl (nI 0)], μ, 0, 0) := mm_W_eq rf_hk_mono _
theorem r_in_15 (ret : Option mV → rf_M → Prop) (μ : rf_M) (x0 : Int32) (ls : List (Option mV)) : W_in ret (15, ls, [.inl x0], μ, 0, 0) = ((x0 = 0 ∨ x0 = 1) ∧ ret (some (.inl x0)) μ) := mm_W_eq rf_hk_mono _
theorem e_in (a0 a1 a2 : Int32) (μ : rf_M) (ret : Option mV → rf_M → Prop) (h : W_in ret (0, [some (.inl a0), some (.inl a1), some (.inl a2)], [], μ, 0, 0)) : P_in [.inl a0, .inl a1, .inl a2] μ 0 0 ret := ⟨Nat.le_of_ble_eq_true rfl, h⟩
theorem so_in (l : Launch) (D : va_G) (cs sa ad : Nat → Nat) (A : Nat → Prop) : mm_So l (rf_W D cs ad A) (kk D cs sa A) ad A yX7_in cX7_in 3 (some .boolean) 0 P_in := id (rf_sound (by decide) (by decide +kernel) rfl (fun p e mc ms s0 m args below meth c F hK hA => fun _ h => absurd h List.not_mem_nil))
/-! newCell -/
def cd_newCell : mC := [(0, .aload_n 0, 1), (1, .getfield 7, 3), (4, .aload_n 0, 1), (5, .getfield 108, 3), (8, .iaload, 1), (9, .ifCond .eq 20, 3), (12, .aload_n 0, 1), (13, .aload_n 0, 1), (14, .getfield 108, 3), (17, .iconst 1, 1), (18, .iadd, 1), (19, .sipush 20480, 3), (22, .irem, 1), (23, .putfield 108, 3), (26, .goto (-26), 3), (29, .aload_n 0, 1), (30, .getfield 7, 3), (33, .aload_n 0, 1), (34, .getfield 108, 3), (37, .iload_n 1, 1), (38, .iastore, 1), (39, .aload_n 0, 1), (40, .getfield 13, 3), (43, .aload_n 0, 1), (44, .getfield 108, 3), (47, .iload_n 2, 1), (48, .iastore, 1), (49, .aload_n 0, 1), (50, .getfield 16, 3), (53, .aload_n 0, 1), (54, .getfield 108, 3), (57, .iload_n 3, 1), (58, .iastore, 1), (59, .aload_n 0, 1), (60, .getfield 19, 3), (63, .aload_n 0, 1), (64, .getfield 108, 3), (67, .iload 4, 2), (69, .iastore, 1), (70, .aload_n 0, 1), (71, .dup, 1), (72, .getfield 26, 3), (75, .iconst 1, 1), (76, .isub, 1), (77, .putfield 26, 3), (80, .aload_n 0, 1), (81, .getfield 108, 3), (84, .ireturn, 1)]
def sp_newCell : mQ rf_M := []
def W_newCell (ret : Option mV → rf_M → Prop) : mX rf_M → Prop := mm_W 1 cd_newCell rf_hk sp_newCell ret
def P_newCell : mP rf_M := rf_P (mm_Pm 1 cd_newCell rf_hk sp_newCell 5)
theorem r_newCell_0 (ret : Option mV → rf_M → Prop) (μ : rf_M) (l1 l2 l3 l4 : Option mV) : W_newCell ret (0, [some (.inr (some 39)), l1, l2, l3, l4], [], μ, 0, 0) = W_newCell ret (1, [some (.inr (some 39)), l1, l2, l3, l4], [.inr (some 39)], μ, 0, 0) := mm_W_eq rf_hk_mono _
theorem r_newCell_1 (ret : Option mV → rf_M → Prop) (μ : rf_M) (ls : List (Option mV)) : W_newCell ret (1, ls, [.inr (some 39)], μ, 0, 0) = W_newCell ret (4, ls, [.inr (some 0)], μ, 0, 0) := mm_W_eq rf_hk_mono _
theorem r_newCell_4 (ret : Option mV → rf_M → Prop) (μ : rf_M) (l1 l2 l3 l4 : Option mV) : W_newCell ret (4, [some (.inr (some 39)), l1, l2, l3, l4], [.inr (some 0)], μ, 0, 0) = W_newCell ret (5, [some (.inr (some 39)), l1, l2, l3, l4], [.inr (some 39), .inr (some 0)], μ, 0, 0) := mm_W_eq rf_hk_mono _
theorem r_newCell_5 (ret : Option mV → rf_M → Prop) (μ : rf_M) (ls : List (Option mV)) : W_newCell ret (5, ls, [.inr (some 39), .inr (some 0)], μ, 0, 0) = W_newCell ret (8, ls, [.inl (μ.1 6), .inr (some 0)], μ, 0, 0) := mm_W_eq rf_hk_mono _
theorem r_newCell_8 (ret : Option mV → rf_M → Prop) (μ : rf_M) (x0 : Int32) (ls : List (Option mV)) : W_newCell ret (8, ls, [.inl x0, .inr (some 0)], μ, 0, 0) = (vp_in x0 20480 ∧ W_newCell ret (9, ls, [.inl (μ.2 0 x0.toNatClampNeg)], μ, 0, 0)) := mm_W_eq rf_hk_mono _
theorem r_newCell_9 (ret : Option mV → rf_M → Prop) (μ : rf_M) (x0 : Int32) (ls : List (Option mV)) : W_newCell ret (9, ls, [.inl x0], μ, 0, 0) = ((x0 = 0 → W_newCell ret (29, ls, [], μ, 0, 0)) ∧ (¬ x0 = 0 → W_newCell ret (12, ls, [], μ, 0, 0))) := mm_W_eq rf_hk_mono _
theorem r_newCell_12 (ret : Option mV → rf_M → Prop) (μ : rf_M) (l1 l2 l3 l4 : Option mV) : W_newCell ret (12, [some (.inr (some 39)), l1, l2, l3, l4], [], μ, 0, 0) = W_newCell ret (13, [some (.inr (some 39)), l1, l2, l3, l4], [.inr (some 39)], μ, 0, 0) := mm_W_eq rf_hk_mono _
theorem r_newCell_13 (ret : Option mV → rf_M → Prop) (μ : rf_M) (l1 l2 l3 l4 : Option mV) : W_newCell ret (13, [some (.inr (some 39)), l1, l2, l3, l4], [.inr (some 39)], μ, 0, 0) = W_newCell ret (14, [some (.inr (some 39)), l1, l2, l3, l4], [.inr (some 39), .inr (some 39)], μ, 0, 0) := mm_W_eq rf_hk_mono _
theorem r_newCell_14 (ret : Option mV → rf_M → Prop) (μ : rf_M) (ls : List (Option mV)) : W_newCell ret (14, ls, [.inr (some 39), .inr (some 39)], μ, 0, 0) = W_newCell ret (17, ls, [.inl (μ.1 6), .inr (some 39)], μ, 0, 0) := mm_W_eq rf_hk_mono _
theorem r_newCell_17 (ret : Option mV → rf_M → Prop) (μ : rf_M) (x0 : Int32) (ls : List (Option mV)) : W_newCell ret (17, ls, [.inl x0, .inr (some 39)], μ, 0, 0) = W_newCell ret (18, ls, [.inl (nI 1), .inl x0, .inr (some 39)], μ, 0, 0) := mm_W_eq rf_hk_mono _
theorem r_newCell_18 (ret : Option mV → rf_M → Prop) (μ : rf_M) (x0 x1 : Int32) (ls : List (Option mV)) : W_newCell ret (18, ls, [.inl x0, .inl x1, .inr (some 39)], μ, 0, 0) = W_newCell ret (19, ls, [.inl (x1 + x0), .inr (some 39)], μ, 0, 0) := mm_W_eq rf_hk_mono _
theorem r_newCell_19 (ret : Option mV → rf_M → Prop) (μ : rf_M) (x0 : Int32) (ls : List (Option mV)) : W_newCell ret (19, ls, [.inl x0, .inr (some 39)], μ, 0, 0) = W_newCell ret (22, ls, [.inl (nI 20480), .inl x0, .inr (some 39)], μ, 0, 0) := mm_W_eq rf_hk_mono _
theorem r_newCell_22 (ret : Option mV → rf_M → Prop) (μ : rf_M) (x0 x1 : Int32) (ls : List (Option mV)) : W_newCell ret (22, ls, [.inl x0, .inl x1, .inr (some 39)], μ, 0, 0) = (¬ x0 = 0 ∧ W_newCell ret (23, ls, [.inl (x1 - x1 / x0 * x0), .inr (some 39)], μ, 0, 0)) := mm_W_eq rf_hk_mono _
theorem r_newCell_23 (ret : Option mV → rf_M → Prop) (μ : rf_M) (x0 : Int32) (ls : List (Option mV)) : W_newCell ret (23, ls, [.inl x0, .inr (some 39)], μ, 0, 0) = W_newCell ret (26, ls, [], (upd μ.1 6 x0, μ.2), 0, 0) := mm_W_eq rf_hk_mono _
set_option maxRecDepth 8000 in
theorem r_newCell_26 (ret : Option mV → rf_M → Prop) (μ : rf_M) (ls : List (Option mV)) : W_newCell ret (26, ls, [], μ, 0, 0) = W_newCell ret (0, ls, [], μ, 0, 0) := mm_W_eq rf_hk_mono _
theorem r_newCell_29 (ret : Option mV → rf_M → Prop) (μ : rf_M) (l1 l2 l3 l4 : Option mV) : W_newCell ret (29, [some (.inr (some 39)), l1, l2, l3, l4], [], μ, 0, 0) = W_newCell ret (30, [some (.inr (some 39)), l1, l2, l3, l4], [.inr (some 39)], μ, 0, 0) := mm_W_eq rf_hk_mono _
theorem r_newCell_30 (ret : Option mV → rf_M → Prop) (μ : rf_M) (ls : List (Option mV)) : W_newCell ret (30, ls, [.inr (some 39)], μ, 0, 0) = W_newCell ret (33, ls, [.inr (some 0)], μ, 0, 0) := mm_W_eq rf_hk_mono _
theorem r_newCell_33 (ret : Option mV → rf_M → Prop) (μ : rf_M) (l1 l2 l3 l4 : Option mV) : W_newCell ret (33, [some (.inr (some 39)), l1, l2, l3, l4], [.inr (some 0)], μ, 0, 0) = W_newCell ret (34, [some (.inr (some 39)), l1, l2, l3, l4], [.inr (some 39), .inr (some 0)], μ, 0, 0) := mm_W_eq rf_hk_mono _
theorem r_newCell_34 (ret : Option mV → rf_M → Prop) (μ : rf_M) (ls : List (Option mV)) : W_newCell ret (34, ls, [.inr (some 39), .inr (some 0)], μ, 0, 0) = W_newCell ret (37, ls, [.inl (μ.1 6), .inr (some 0)], μ, 0, 0) := mm_W_eq rf_hk_mono _
theorem r_newCell_37 (ret : Option mV → rf_M → Prop) (μ : rf_M) (x0 y : Int32) (l0 l2 l3 l4 : Option mV) : W_newCell ret (37, [l0, some (.inl y), l2, l3, l4], [.inl x0, .inr (some 0)], μ, 0, 0) = W_newCell ret (38, [l0, some (.inl y), l2, l3, l4], [.inl y, .inl x0, .inr (some 0)], μ, 0, 0) := mm_W_eq rf_hk_mono _
theorem r_newCell_38 (ret : Option mV → rf_M → Prop) (μ : rf_M) (x0 x1 : Int32) (ls : List (Option mV)) : W_newCell ret (38, ls, [.inl x0, .inl x1, .inr (some 0)], μ, 0, 0) = (vp_in x1 20480 ∧ W_newCell ret (39, ls, [], (μ.1, rf_up μ.2 0 x1.toNatClampNeg x0), 0, 0)) := mm_W_eq rf_hk_mono _
theorem r_newCell_39 (ret : Option mV → rf_M → Prop) (μ : rf_M) (l1 l2 l3 l4 : Option mV) : W_newCell ret (39, [some (.inr (some 39)), l1, l2, l3, l4], [], μ, 0, 0) = W_newCell ret (40, [some (.inr (some 39)), l1, l2, l3, l4], [.inr (some 39)], μ, 0, 0) := mm_W_eq rf_hk_mono _
theorem r_newCell_40 (ret : Option mV → rf_M → Prop) (μ : rf_M) (ls : List (Option mV)) : W_newCell ret (40, ls, [.inr (some 39)], μ, 0, 0) = W_newCell ret (43, ls, [.inr (some 1)], μ, 0, 0) := mm_W_eq rf_hk_mono _
theorem r_newCell_43 (ret : Option mV → rf_M → Prop) (μ : rf_M) (l1 l2 l3 l4 : Option mV) : W_newCell ret (43, [some (.inr (some 39)), l1, l2, l3, l4], [.inr (some 1)], μ, 0, 0) = W_newCell ret (44, [some (.inr (some 39)), l1, l2, l3, l4], [.inr (some 39), .inr (some 1)], μ, 0, 0) := mm_W_eq rf_hk_mono _
theorem r_newCell_44 (ret : Option mV → rf_M → Prop) (μ : rf_M) (ls : List (Option mV)) : W_newCell ret (44, ls, [.inr (some 39), .inr (some 1)], μ, 0, 0) = W_newCell ret (47, ls, [.inl (μ.1 6), .inr (some 1)], μ, 0, 0) := mm_W_eq rf_hk_mono _
theorem r_newCell_47 (ret : Option mV → rf_M → Prop) (μ : rf_M) (x0 y : Int32) (l0 l1 l3 l4 : Option mV) : W_newCell ret (47, [l0, l1, some (.inl y), l3, l4], [.inl x0, .inr (some 1)], μ, 0, 0) = W_newCell ret (48, [l0, l1, some (.inl y), l3, l4], [.inl y, .inl x0, .inr (some 1)], μ, 0, 0) := mm_W_eq rf_hk_mono _
theorem r_newCell_48 (ret : Option mV → rf_M → Prop) (μ : rf_M) (x0 x1 : Int32) (ls : List (Option mV)) : W_newCell ret (48, ls, [.inl x0, .inl x1, .inr (some 1)], μ, 0, 0) = (vp_in x1 20480 ∧ W_newCell ret (49, ls, [], (μ.1, rf_up μ.2 1 x1.toNatClampNeg x0), 0, 0)) := mm_W_eq rf_hk_mono _
theorem r_newCell_49 (ret : Option mV → rf_M → Prop) (μ : rf_M) (l1 l2 l3 l4 : Option mV) : W_newCell ret (49, [some (.inr (some 39)), l1, l2, l3, l4], [], μ, 0, 0) = W_newCell ret (50, [some (.inr (some 39)), l1, l2, l3, l4], [.inr (some 39)], μ, 0, 0) := mm_W_eq rf_hk_mono _
theorem r_newCell_50 (ret : Option mV → rf_M → Prop) (μ : rf_M) (ls : List (Option mV)) : W_newCell ret (50, ls, [.inr (some 39)], μ, 0, 0) = W_newCell ret (53, ls, [.inr (some 2)], μ, 0, 0) := mm_W_eq rf_hk_mono _
theorem r_newCell_53 (ret : Option mV → rf_M → Prop) (μ : rf_M) (l1 l2 l3 l4 : Option mV) : W_newCell ret (53, [some (.inr (some 39)), l1, l2, l3, l4], [.inr (some 2)], μ, 0, 0) = W_newCell ret (54, [some (.inr (some 39)), l1, l2, l3, l4], [.inr (some 39), .inr (some 2)], μ, 0, 0) := mm_W_eq rf_hk_mono _
theorem r_newCell_54 (ret : Option mV → rf_M → Prop) (μ : rf_M) (ls : List (Option mV)) : W_newCell ret (54, ls, [.inr (some 39), .inr (some 2)], μ, 0, 0) = W_newCell ret (57, ls, [.inl (μ.1 6), .inr (some 2)], μ, 0, 0) := mm_W_eq rf_hk_mono _
theorem r_newCell_57 (ret : Option mV → rf_M → Prop) (μ : rf_M) (x0 y : Int32) (l0 l1 l2 l4 : Option mV) : W_newCell ret (57, [l0, l1, l2, some (.inl y), l4], [.inl x0, .inr (some 2)], μ, 0, 0) = W_newCell ret (58, [l0, l1, l2, some (.inl y), l4], [.inl y, .inl x0, .inr (some 2)], μ, 0, 0) := mm_W_eq rf_hk_mono _
theorem r_newCell_58 (ret : Option mV → rf_M → Prop) (μ : rf_M) (x0 x1 : Int32) (ls : List (Option mV)) : W_newCell ret (58, ls, [.inl x0, .inl x1, .inr (some 2)], μ, 0, 0) = (vp_in x1 20480 ∧ W_newCell ret (59, ls, [], (μ.1, rf_up μ.2 2 x1.toNatClampNeg x0), 0, 0)) := mm_W_eq rf_hk_mono _
theorem r_newCell_59 (ret : Option mV → rf_M → Prop) (μ : rf_M) (l1 l2 l3 l4 : Option mV) : W_newCell ret (59, [some (.inr (some 39)), l1, l2, l3, l4], [], μ, 0, 0) = W_newCell ret (60, [some (.inr (some 39)), l1, l2, l3, l4], [.inr (some 39)], μ, 0, 0) := mm_W_eq rf_hk_mono _
theorem r_newCell_60 (ret : Option mV → rf_M → Prop) (μ : rf_M) (ls : List (Option mV)) : W_newCell ret (60, ls, [.inr (some 39)], μ, 0, 0) = W_newCell ret (63, ls, [.inr (some 3)], μ, 0, 0) := mm_W_eq rf_hk_mono _
set_option maxRecDepth 8000 in
theorem r_newCell_63 (ret : Option mV → rf_M → Prop) (μ : rf_M) (l1 l2 l3 l4 : Option mV) : W_newCell ret (63, [some (.inr (some 39)), l1, l2, l3, l4], [.inr (some 3)], μ, 0, 0) = W_newCell ret (64, [some (.inr (some 39)), l1, l2, l3, l4], [.inr (some 39), .inr (some 3)], μ, 0, 0) := mm_W_eq rf_hk_mono _
set_option maxRecDepth 8000 in
theorem r_newCell_64 (ret : Option mV → rf_M → Prop) (μ : rf_M) (ls : List (Option mV)) : W_newCell ret (64, ls, [.inr (some 39), .inr (some 3)], μ, 0, 0) = W_newCell ret (67, ls, [.inl (μ.1 6), .inr (some 3)], μ, 0, 0) := mm_W_eq rf_hk_mono _
set_option maxRecDepth 8000 in
theorem r_newCell_67 (ret : Option mV → rf_M → Prop) (μ : rf_M) (x0 y : Int32) (l0 l1 l2 l3 : Option mV) : W_newCell ret (67, [l0, l1, l2, l3, some (.inl y)], [.inl x0, .inr (some 3)], μ, 0, 0) = W_newCell ret (69, [l0, l1, l2, l3, some (.inl y)], [.inl y, .inl x0, .inr (some 3)], μ, 0, 0) := mm_W_eq rf_hk_mono _
set_option maxRecDepth 8000 in
theorem r_newCell_69 (ret : Option mV → rf_M → Prop) (μ : rf_M) (x0 x1 : Int32) (ls : List (Option mV)) : W_newCell ret (69, ls, [.inl x0, .inl x1, .inr (some 3)], μ, 0, 0) = (vp_in x1 20480 ∧ W_newCell ret (70, ls, [], (μ.1, rf_up μ.2 3 x1.toNatClampNeg x0), 0, 0)) := mm_W_eq rf_hk_mono _
set_option maxRecDepth 8000 in
theorem r_newCell_70 (ret : Option mV → rf_M → Prop) (μ : rf_M) (l1 l2 l3 l4 : Option mV) : W_newCell ret (70, [some (.inr (some 39)), l1, l2, l3, l4], [], μ, 0, 0) = W_newCell ret (71, [some (.inr (some 39)), l1, l2, l3, l4], [.inr (some 39)], μ, 0, 0) := mm_W_eq rf_hk_mono _
set_option maxRecDepth 8000 in
theorem r_newCell_71 (ret : Option mV → rf_M → Prop) (μ : rf_M) (ls : List (Option mV)) : W_newCell ret (71, ls, [.inr (some 39)], μ, 0, 0) = W_newCell ret (72, ls, [.inr (some 39), .inr (some 39)], μ, 0, 0) := mm_W_eq rf_hk_mono _
set_option maxRecDepth 8000 in
theorem r_newCell_72 (ret : Option mV → rf_M → Prop) (μ : rf_M) (ls : List (Option mV)) : W_newCell ret (72, ls, [.inr (some 39), .inr (some 39)], μ, 0, 0) = W_newCell ret (75, ls, [.inl (μ.1 5), .inr (some 39)], μ, 0, 0) := mm_W_eq rf_hk_mono _
set_option maxRecDepth 8000 in
theorem r_newCell_75 (ret : Option mV → rf_M → Prop) (μ : rf_M) (x0 : Int32) (ls : List (Option mV)) : W_newCell ret (75, ls, [.inl x0, .inr (some 39)], μ, 0, 0) = W_newCell ret (76, ls, [.inl (nI 1), .inl x0, .inr (some 39)], μ, 0, 0) := mm_W_eq rf_hk_mono _
set_option maxRecDepth 8000 in
theorem r_newCell_76 (ret : Option mV → rf_M → Prop) (μ : rf_M) (x0 x1 : Int32) (ls : List (Option mV)) : W_newCell ret (76, ls, [.inl x0, .inl x1, .inr (some 39)], μ, 0, 0) = W_newCell ret (77, ls, [.inl (x1 - x0), .inr (some 39)], μ, 0, 0) := mm_W_eq rf_hk_mono _
set_option maxRecDepth 8000 in
theorem r_newCell_77 (ret : Option mV → rf_M → Prop) (μ : rf_M) (x0 : Int32) (ls : List (Option mV)) : W_newCell ret (77, ls, [.inl x0, .inr (some 39)], μ, 0, 0) = W_newCell ret (80, ls, [], (upd μ.1 5 x0, μ.2), 0, 0) := mm_W_eq rf_hk_mono _
set_option maxRecDepth 8000 in
theorem r_newCell_80 (ret : Option mV → rf_M → Prop) (μ : rf_M) (l1 l2 l3 l4 : Option mV) : W_newCell ret (80, [some (.inr (some 39)), l1, l2, l3, l4], [], μ, 0, 0) = W_newCell ret (81, [some (.inr (some 39)), l1, l2, l3, l4], [.inr (some 39)], μ, 0, 0) := mm_W_eq rf_hk_mono _
set_option maxRecDepth 8000 in
theorem r_newCell_81 (ret : Option mV → rf_M → Prop) (μ : rf_M) (ls : List (Option mV)) : W_newCell ret (81, ls, [.inr (some 39)], μ, 0, 0) = W_newCell ret (84, ls, [.inl (μ.1 6)], μ, 0, 0) := mm_W_eq rf_hk_mono _
set_option maxRecDepth 8000 in
theorem r_newCell_84 (ret : Option mV → rf_M → Prop) (μ : rf_M) (x0 : Int32) (ls : List (Option mV)) : W_newCell ret (84, ls, [.inl x0], μ, 0, 0) = ret (some (.inl x0)) μ := mm_W_eq rf_hk_mono _
theorem e_newCell (a0 a1 a2 a3 : Int32) (μ : rf_M) (ret : Option mV → rf_M → Prop) (h : W_newCell ret (0, [some (.inr (some 39)), some (.inl a0), some (.inl a1), some (.inl a2), some (.inl a3)], [], μ, 0, 0)) : P_newCell [.inr (some 39), .inl a0, .inl a1, .inl a2, .inl a3] μ 0 0 ret := ⟨rfl, Nat.le_of_ble_eq_true rfl, h⟩
theorem so_newCell (l : Launch) (D : va_G) (cs sa ad : Nat → Nat) (A : Nat → Prop) : mm_So l (rf_W D cs ad A) (kk D cs sa A) ad A yX7_newCell cX7_newCell 5 (some .int) 0 P_newCell := rf_So (rf_sound (by decide) (by decide +kernel) rfl (fun p e mc ms s0 m args below meth c F hK hA => fun _ h => absurd h List.not_mem_nil))
/-! keepText -/
def cd_keepText : mC := [(0, .aload_n 0, 1), (1, .getfield 31, 3), (4, .aload_n 0, 1), (5, .getfield 111, 3), (8, .iload_n 1, 1), (9, .iastore, 1), (10, .aload_n 0, 1), (11, .getfield 31, 3), (14, .aload_n 0, 1), (15, .getfield 111, 3), (18, .iconst 1, 1), (19, .iadd, 1), (20, .iload_n 2, 1), (21, .iastore, 1), (22, .iconst 0, 1), (23, .istore_n 3, 1), (24, .iload_n 3, 1), (25, .iload_n 2, 1), (26, .if_icmp .ge 28, 3), (29, .aload_n 0, 1), (30, .getfield 31, 3), (33, .aload_n 0, 1), (34, .getfield 111, 3), (37, .iconst 2, 1), (38, .iadd, 1), (39, .iload_n 3, 1), (40, .iadd, 1), (41, .aload_n 0, 1), (42, .getfield 61, 3), (45, .iload_n 3, 1), (46, .iaload, 1), (47, .iastore, 1), (48, .iinc 3 1, 3), (51, .goto (-27), 3), (54, .aload_n 0, 1), (55, .getfield 111, 3), (58, .iconst 2, 1), (59, .iadd, 1), (60, .istore_n 3, 1), (61, .aload_n 0, 1), (62, .dup, 1), (63, .getfield 111, 3), (66, .iload_n 2, 1), (67, .iconst 2, 1), (68, .iadd, 1), (69, .iadd, 1), (70, .putfield 111, 3), (73, .iload_n 3, 1), (74, .ireturn, 1)]
def sp_keepText : mQ rf_M := []
def W_keepText (ret : Option mV → rf_M → Prop) : mX rf_M → Prop := mm_W 1 cd_keepText rf_hk sp_keepText ret
def P_keepText : mP rf_M := rf_P (mm_Pm 1 cd_keepText rf_hk sp_keepText 4)
theorem r_keepText_0 (ret : Option mV → rf_M → Prop) (μ : rf_M) (l1 l2 l3 : Option mV) : W_keepText ret (0, [some (.inr (some 39)), l1, l2, l3], [], μ, 0, 0) = W_keepText ret (1, [some (.inr (some 39)), l1, l2, l3], [.inr (some 39)], μ, 0, 0) := mm_W_eq rf_hk_mono _
theorem r_keepText_1 (ret : Option mV → rf_M → Prop) (μ : rf_M) (ls : List (Option mV)) : W_keepText ret (1, ls, [.inr (some 39)], μ, 0, 0) = W_keepText ret (4, ls, [.inr (some 7)], μ, 0, 0) := mm_W_eq rf_hk_mono _
theorem r_keepText_4 (ret : Option mV → rf_M → Prop) (μ : rf_M) (l1 l2 l3 : Option mV) : W_keepText ret (4, [some (.inr (some 39)), l1, l2, l3], [.inr (some 7)], μ, 0, 0) = W_keepText ret (5, [some (.inr (some 39)), l1, l2, l3], [.inr (some 39), .inr (some 7)], μ, 0, 0) := mm_W_eq rf_hk_mono _
theorem r_keepText_5 (ret : Option mV → rf_M → Prop) (μ : rf_M) (ls : List (Option mV)) : W_keepText ret (5, ls, [.inr (some 39), .inr (some 7)], μ, 0, 0) = W_keepText ret (8, ls, [.inl (μ.1 8), .inr (some 7)], μ, 0, 0) := mm_W_eq rf_hk_mono _
theorem r_keepText_8 (ret : Option mV → rf_M → Prop) (μ : rf_M) (x0 y : Int32) (l0 l2 l3 : Option mV) : W_keepText ret (8, [l0, some (.inl y), l2, l3], [.inl x0, .inr (some 7)], μ, 0, 0) = W_keepText ret (9, [l0, some (.inl y), l2, l3], [.inl y, .inl x0, .inr (some 7)], μ, 0, 0) := mm_W_eq rf_hk_mono _
theorem r_keepText_9 (ret : Option mV → rf_M → Prop) (μ : rf_M) (x0 x1 : Int32) (ls : List (Option mV)) : W_keepText ret (9, ls, [.inl x0, .inl x1, .inr (some 7)], μ, 0, 0) = (vp_in x1 81920 ∧ W_keepText ret (10, ls, [], (μ.1, rf_up μ.2 7 x1.toNatClampNeg x0), 0, 0)) := mm_W_eq rf_hk_mono _
theorem r_keepText_10 (ret : Option mV → rf_M → Prop) (μ : rf_M) (l1 l2 l3 : Option mV) : W_keepText ret (10, [some (.inr (some 39)), l1, l2, l3], [], μ, 0, 0) = W_keepText ret (11, [some (.inr (some 39)), l1, l2, l3], [.inr (some 39)], μ, 0, 0) := mm_W_eq rf_hk_mono _
theorem r_keepText_11 (ret : Option mV → rf_M → Prop) (μ : rf_M) (ls : List (Option mV)) : W_keepText ret (11, ls, [.inr (some 39)], μ, 0, 0) = W_keepText ret (14, ls, [.inr (some 7)], μ, 0, 0) := mm_W_eq rf_hk_mono _
theorem r_keepText_14 (ret : Option mV → rf_M → Prop) (μ : rf_M) (l1 l2 l3 : Option mV) : W_keepText ret (14, [some (.inr (some 39)), l1, l2, l3], [.inr (some 7)], μ, 0, 0) = W_keepText ret (15, [some (.inr (some 39)), l1, l2, l3], [.inr (some 39), .inr (some 7)], μ, 0, 0) := mm_W_eq rf_hk_mono _
theorem r_keepText_15 (ret : Option mV → rf_M → Prop) (μ : rf_M) (ls : List (Option mV)) : W_keepText ret (15, ls, [.inr (some 39), .inr (some 7)], μ, 0, 0) = W_keepText ret (18, ls, [.inl (μ.1 8), .inr (some 7)], μ, 0, 0) := mm_W_eq rf_hk_mono _
theorem r_keepText_18 (ret : Option mV → rf_M → Prop) (μ : rf_M) (x0 : Int32) (ls : List (Option mV)) : W_keepText ret (18, ls, [.inl x0, .inr (some 7)], μ, 0, 0) = W_keepText ret (19, ls, [.inl (nI 1), .inl x0, .inr (some 7)], μ, 0, 0) := mm_W_eq rf_hk_mono _
theorem r_keepText_19 (ret : Option mV → rf_M → Prop) (μ : rf_M) (x0 x1 : Int32) (ls : List (Option mV)) : W_keepText ret (19, ls, [.inl x0, .inl x1, .inr (some 7)], μ, 0, 0) = W_keepText ret (20, ls, [.inl (x1 + x0), .inr (some 7)], μ, 0, 0) := mm_W_eq rf_hk_mono _
theorem r_keepText_20 (ret : Option mV → rf_M → Prop) (μ : rf_M) (x0 y : Int32) (l0 l1 l3 : Option mV) : W_keepText ret (20, [l0, l1, some (.inl y), l3], [.inl x0, .inr (some 7)], μ, 0, 0) = W_keepText ret (21, [l0, l1, some (.inl y), l3], [.inl y, .inl x0, .inr (some 7)], μ, 0, 0) := mm_W_eq rf_hk_mono _
theorem r_keepText_21 (ret : Option mV → rf_M → Prop) (μ : rf_M) (x0 x1 : Int32) (ls : List (Option mV)) : W_keepText ret (21, ls, [.inl x0, .inl x1, .inr (some 7)], μ, 0, 0) = (vp_in x1 81920 ∧ W_keepText ret (22, ls, [], (μ.1, rf_up μ.2 7 x1.toNatClampNeg x0), 0, 0)) := mm_W_eq rf_hk_mono _
theorem r_keepText_22 (ret : Option mV → rf_M → Prop) (μ : rf_M) (ls : List (Option mV)) : W_keepText ret (22, ls, [], μ, 0, 0) = W_keepText ret (23, ls, [.inl (nI 0)], μ, 0, 0) := mm_W_eq rf_hk_mono _
theorem r_keepText_23 (ret : Option mV → rf_M → Prop) (μ : rf_M) (x0 : Int32) (l0 l1 l2 l3 : Option mV) : W_keepText ret (23, [l0, l1, l2, l3], [.inl x0], μ, 0, 0) = W_keepText ret (24, [l0, l1, l2, some (.inl x0)], [], μ, 0, 0) := mm_W_eq rf_hk_mono _
theorem r_keepText_24 (ret : Option mV → rf_M → Prop) (μ : rf_M) (y : Int32) (l0 l1 l2 : Option mV) : W_keepText ret (24, [l0, l1, l2, some (.inl y)], [], μ, 0, 0) = W_keepText ret (25, [l0, l1, l2, some (.inl y)], [.inl y], μ, 0, 0) := mm_W_eq rf_hk_mono _
theorem r_keepText_25 (ret : Option mV → rf_M → Prop) (μ : rf_M) (x0 y : Int32) (l0 l1 l3 : Option mV) : W_keepText ret (25, [l0, l1, some (.inl y), l3], [.inl x0], μ, 0, 0) = W_keepText ret (26, [l0, l1, some (.inl y), l3], [.inl y, .inl x0], μ, 0, 0) := mm_W_eq rf_hk_mono _
theorem r_keepText_26 (ret : Option mV → rf_M → Prop) (μ : rf_M) (x0 x1 : Int32) (ls : List (Option mV)) : W_keepText ret (26, ls, [.inl x0, .inl x1], μ, 0, 0) = ((x0 ≤ x1 → W_keepText ret (54, ls, [], μ, 0, 0)) ∧ (¬ x0 ≤ x1 → W_keepText ret (29, ls, [], μ, 0, 0))) := mm_W_eq rf_hk_mono _
theorem r_keepText_29 (ret : Option mV → rf_M → Prop) (μ : rf_M) (l1 l2 l3 : Option mV) : W_keepText ret (29, [some (.inr (some 39)), l1, l2, l3], [], μ, 0, 0) = W_keepText ret (30, [some (.inr (some 39)), l1, l2, l3], [.inr (some 39)], μ, 0, 0) := mm_W_eq rf_hk_mono _
theorem r_keepText_30 (ret : Option mV → rf_M → Prop) (μ : rf_M) (ls : List (Option mV)) : W_keepText ret (30, ls, [.inr (some 39)], μ, 0, 0) = W_keepText ret (33, ls, [.inr (some 7)], μ, 0, 0) := mm_W_eq rf_hk_mono _
theorem r_keepText_33 (ret : Option mV → rf_M → Prop) (μ : rf_M) (l1 l2 l3 : Option mV) : W_keepText ret (33, [some (.inr (some 39)), l1, l2, l3], [.inr (some 7)], μ, 0, 0) = W_keepText ret (34, [some (.inr (some 39)), l1, l2, l3], [.inr (some 39), .inr (some 7)], μ, 0, 0) := mm_W_eq rf_hk_mono _
theorem r_keepText_34 (ret : Option mV → rf_M → Prop) (μ : rf_M) (ls : List (Option mV)) : W_keepText ret (34, ls, [.inr (some 39), .inr (some 7)], μ, 0, 0) = W_keepText ret (37, ls, [.inl (μ.1 8), .inr (some 7)], μ, 0, 0) := mm_W_eq rf_hk_mono _
theorem r_keepText_37 (ret : Option mV → rf_M → Prop) (μ : rf_M) (x0 : Int32) (ls : List (Option mV)) : W_keepText ret (37, ls, [.inl x0, .inr (some 7)], μ, 0, 0) = W_keepText ret (38, ls, [.inl (nI 2), .inl x0, .inr (some 7)], μ, 0, 0) := mm_W_eq rf_hk_mono _
theorem r_keepText_38 (ret : Option mV → rf_M → Prop) (μ : rf_M) (x0 x1 : Int32) (ls : List (Option mV)) : W_keepText ret (38, ls, [.inl x0, .inl x1, .inr (some 7)], μ, 0, 0) = W_keepText ret (39, ls, [.inl (x1 + x0), .inr (some 7)], μ, 0, 0) := mm_W_eq rf_hk_mono _
theorem r_keepText_39 (ret : Option mV → rf_M → Prop) (μ : rf_M) (x0 y : Int32) (l0 l1 l2 : Option mV) : W_keepText ret (39, [l0, l1, l2, some (.inl y)], [.inl x0, .inr (some 7)], μ, 0, 0) = W_keepText ret (40, [l0, l1, l2, some (.inl y)], [.inl y, .inl x0, .inr (some 7)], μ, 0, 0) := mm_W_eq rf_hk_mono _
theorem r_keepText_40 (ret : Option mV → rf_M → Prop) (μ : rf_M) (x0 x1 : Int32) (ls : List (Option mV)) : W_keepText ret (40, ls, [.inl x0, .inl x1, .inr (some 7)], μ, 0, 0) = W_keepText ret (41, ls, [.inl (x1 + x0), .inr (some 7)], μ, 0, 0) := mm_W_eq rf_hk_mono _
theorem r_keepText_41 (ret : Option mV → rf_M → Prop) (μ : rf_M) (x0 : Int32) (l1 l2 l3 : Option mV) : W_keepText ret (41, [some (.inr (some 39)), l1, l2, l3], [.inl x0, .inr (some 7)], μ, 0, 0) = W_keepText ret (42, [some (.inr (some 39)), l1, l2, l3], [.inr (some 39), .inl x0, .inr (some 7)], μ, 0, 0) := mm_W_eq rf_hk_mono _
theorem r_keepText_42 (ret : Option mV → rf_M → Prop) (μ : rf_M) (x1 : Int32) (ls : List (Option mV)) : W_keepText ret (42, ls, [.inr (some 39), .inl x1, .inr (some 7)], μ, 0, 0) = W_keepText ret (45, ls, [.inr (some 21), .inl x1, .inr (some 7)], μ, 0, 0) := mm_W_eq rf_hk_mono _
theorem r_keepText_45 (ret : Option mV → rf_M → Prop) (μ : rf_M) (x1 y : Int32) (l0 l1 l2 : Option mV) : W_keepText ret (45, [l0, l1, l2, some (.inl y)], [.inr (some 21), .inl x1, .inr (some 7)], μ, 0, 0) = W_keepText ret (46, [l0, l1, l2, some (.inl y)], [.inl y, .inr (some 21), .inl x1, .inr (some 7)], μ, 0, 0) := mm_W_eq rf_hk_mono _
theorem r_keepText_46 (ret : Option mV → rf_M → Prop) (μ : rf_M) (x0 x2 : Int32) (ls : List (Option mV)) : W_keepText ret (46, ls, [.inl x0, .inr (some 21), .inl x2, .inr (some 7)], μ, 0, 0) = (vp_in x0 240 ∧ W_keepText ret (47, ls, [.inl (μ.2 21 x0.toNatClampNeg), .inl x2, .inr (some 7)], μ, 0, 0)) := mm_W_eq rf_hk_mono _
theorem r_keepText_47 (ret : Option mV → rf_M → Prop) (μ : rf_M) (x0 x1 : Int32) (ls : List (Option mV)) : W_keepText ret (47, ls, [.inl x0, .inl x1, .inr (some 7)], μ, 0, 0) = (vp_in x1 81920 ∧ W_keepText ret (48, ls, [], (μ.1, rf_up μ.2 7 x1.toNatClampNeg x0), 0, 0)) := mm_W_eq rf_hk_mono _
theorem r_keepText_48 (ret : Option mV → rf_M → Prop) (μ : rf_M) (y : Int32) (l0 l1 l2 : Option mV) : W_keepText ret (48, [l0, l1, l2, some (.inl y)], [], μ, 0, 0) = W_keepText ret (51, [l0, l1, l2, some (.inl (y + nI 1))], [], μ, 0, 0) := mm_W_eq rf_hk_mono _
set_option maxRecDepth 8000 in
theorem r_keepText_51 (ret : Option mV → rf_M → Prop) (μ : rf_M) (ls : List (Option mV)) : W_keepText ret (51, ls, [], μ, 0, 0) = W_keepText ret (24, ls, [], μ, 0, 0) := mm_W_eq rf_hk_mono _
theorem r_keepText_54 (ret : Option mV → rf_M → Prop) (μ : rf_M) (l1 l2 l3 : Option mV) : W_keepText ret (54, [some (.inr (some 39)), l1, l2, l3], [], μ, 0, 0) = W_keepText ret (55, [some (.inr (some 39)), l1, l2, l3], [.inr (some 39)], μ, 0, 0) := mm_W_eq rf_hk_mono _
theorem r_keepText_55 (ret : Option mV → rf_M → Prop) (μ : rf_M) (ls : List (Option mV)) : W_keepText ret (55, ls, [.inr (some 39)], μ, 0, 0) = W_keepText ret (58, ls, [.inl (μ.1 8)], μ, 0, 0) := mm_W_eq rf_hk_mono _
theorem r_keepText_58 (ret : Option mV → rf_M → Prop) (μ : rf_M) (x0 : Int32) (ls : List (Option mV)) : W_keepText ret (58, ls, [.inl x0], μ, 0, 0) = W_keepText ret (59, ls, [.inl (nI 2), .inl x0], μ, 0, 0) := mm_W_eq rf_hk_mono _
theorem r_keepText_59 (ret : Option mV → rf_M → Prop) (μ : rf_M) (x0 x1 : Int32) (ls : List (Option mV)) : W_keepText ret (59, ls, [.inl x0, .inl x1], μ, 0, 0) = W_keepText ret (60, ls, [.inl (x1 + x0)], μ, 0, 0) := mm_W_eq rf_hk_mono _
theorem r_keepText_60 (ret : Option mV → rf_M → Prop) (μ : rf_M) (x0 : Int32) (l0 l1 l2 l3 : Option mV) : W_keepText ret (60, [l0, l1, l2, l3], [.inl x0], μ, 0, 0) = W_keepText ret (61, [l0, l1, l2, some (.inl x0)], [], μ, 0, 0) := mm_W_eq rf_hk_mono _
set_option maxRecDepth 8000 in
theorem r_keepText_61 (ret : Option mV → rf_M → Prop) (μ : rf_M) (l1 l2 l3 : Option mV) : W_keepText ret (61, [some (.inr (some 39)), l1, l2, l3], [], μ, 0, 0) = W_keepText ret (62, [some (.inr (some 39)), l1, l2, l3], [.inr (some 39)], μ, 0, 0) := mm_W_eq rf_hk_mono _
set_option maxRecDepth 8000 in
theorem r_keepText_62 (ret : Option mV → rf_M → Prop) (μ : rf_M) (ls : List (Option mV)) : W_keepText ret (62, ls, [.inr (some 39)], μ, 0, 0) = W_keepText ret (63, ls, [.inr (some 39), .inr (some 39)], μ, 0, 0) := mm_W_eq rf_hk_mono _
set_option maxRecDepth 8000 in
theorem r_keepText_63 (ret : Option mV → rf_M → Prop) (μ : rf_M) (ls : List (Option mV)) : W_keepText ret (63, ls, [.inr (some 39), .inr (some 39)], μ, 0, 0) = W_keepText ret (66, ls, [.inl (μ.1 8), .inr (some 39)], μ, 0, 0) := mm_W_eq rf_hk_mono _
set_option maxRecDepth 8000 in
theorem r_keepText_66 (ret : Option mV → rf_M → Prop) (μ : rf_M) (x0 y : Int32) (l0 l1 l3 : Option mV) : W_keepText ret (66, [l0, l1, some (.inl y), l3], [.inl x0, .inr (some 39)], μ, 0, 0) = W_keepText ret (67, [l0, l1, some (.inl y), l3], [.inl y, .inl x0, .inr (some 39)], μ, 0, 0) := mm_W_eq rf_hk_mono _
set_option maxRecDepth 8000 in
theorem r_keepText_67 (ret : Option mV → rf_M → Prop) (μ : rf_M) (x0 x1 : Int32) (ls : List (Option mV)) : W_keepText ret (67, ls, [.inl x0, .inl x1, .inr (some 39)], μ, 0, 0) = W_keepText ret (68, ls, [.inl (nI 2), .inl x0, .inl x1, .inr (some 39)], μ, 0, 0) := mm_W_eq rf_hk_mono _
set_option maxRecDepth 8000 in
theorem r_keepText_68 (ret : Option mV → rf_M → Prop) (μ : rf_M) (x0 x1 x2 : Int32) (ls : List (Option mV)) : W_keepText ret (68, ls, [.inl x0, .inl x1, .inl x2, .inr (some 39)], μ, 0, 0) = W_keepText ret (69, ls, [.inl (x1 + x0), .inl x2, .inr (some 39)], μ, 0, 0) := mm_W_eq rf_hk_mono _
set_option maxRecDepth 8000 in
theorem r_keepText_69 (ret : Option mV → rf_M → Prop) (μ : rf_M) (x0 x1 : Int32) (ls : List (Option mV)) : W_keepText ret (69, ls, [.inl x0, .inl x1, .inr (some 39)], μ, 0, 0) = W_keepText ret (70, ls, [.inl (x1 + x0), .inr (some 39)], μ, 0, 0) := mm_W_eq rf_hk_mono _
set_option maxRecDepth 8000 in
theorem r_keepText_70 (ret : Option mV → rf_M → Prop) (μ : rf_M) (x0 : Int32) (ls : List (Option mV)) : W_keepText ret (70, ls, [.inl x0, .inr (some 39)], μ, 0, 0) = W_keepText ret (73, ls, [], (upd μ.1 8 x0, μ.2), 0, 0) := mm_W_eq rf_hk_mono _
set_option maxRecDepth 8000 in
theorem r_keepText_73 (ret : Option mV → rf_M → Prop) (μ : rf_M) (y : Int32) (l0 l1 l2 : Option mV) : W_keepText ret (73, [l0, l1, l2, some (.inl y)], [], μ, 0, 0) = W_keepText ret (74, [l0, l1, l2, some (.inl y)], [.inl y], μ, 0, 0) := mm_W_eq rf_hk_mono _
set_option maxRecDepth 8000 in
theorem r_keepText_74 (ret : Option mV → rf_M → Prop) (μ : rf_M) (x0 : Int32) (ls : List (Option mV)) : W_keepText ret (74, ls, [.inl x0], μ, 0, 0) = ret (some (.inl x0)) μ := mm_W_eq rf_hk_mono _
theorem e_keepText (a0 a1 : Int32) (μ : rf_M) (ret : Option mV → rf_M → Prop) (h : W_keepText ret (0, [some (.inr (some 39)), some (.inl a0), some (.inl a1), none], [], μ, 0, 0)) : P_keepText [.inr (some 39), .inl a0, .inl a1] μ 0 0 ret := ⟨rfl, Nat.le_of_ble_eq_true rfl, h⟩
theorem so_keepText (l : Launch) (D : va_G) (cs sa ad : Nat → Nat) (A : Nat → Prop) : mm_So l (rf_W D cs ad A) (kk D cs sa A) ad A yX7_keepText cX7_keepText 4 (some .int) 0 P_keepText := rf_So (rf_sound (by decide) (by decide +kernel) rfl (fun p e mc ms s0 m args below meth c F hK hA => fun _ h => absurd h List.not_mem_nil))
/-! clearMarks -/
def cd_clearMarks : mC := [(0, .iconst 0, 1), (1, .istore_n 1, 1), (2, .iload_n 1, 1), (3, .sipush 20480, 3), (6, .if_icmp .ge 16, 3), (9, .aload_n 0, 1), (10, .getfield 22, 3), (13, .iload_n 1, 1), (14, .iconst 0, 1), (15, .bastore, 1), (16, .iinc 1 1, 3), (19, .goto (-17), 3), (22, .return_, 1)]
def sp_clearMarks : mQ rf_M := []
def W_clearMarks (ret : Option mV → rf_M → Prop) : mX rf_M → Prop := mm_W 0 cd_clearMarks rf_hk sp_clearMarks ret
def P_clearMarks : mP rf_M := rf_P (mm_Pm 0 cd_clearMarks rf_hk sp_clearMarks 2)
theorem r_clearMarks_0 (ret : Option mV → rf_M → Prop) (μ : rf_M) (ls : List (Option mV)) : W_clearMarks ret (0, ls, [], μ, 0, 0) = W_clearMarks ret (1, ls, [.inl (nI 0)], μ, 0, 0) := mm_W_eq rf_hk_mono _
theorem r_clearMarks_1 (ret : Option mV → rf_M → Prop) (μ : rf_M) (x0 : Int32) (l0 l1 : Option mV) : W_clearMarks ret (1, [l0, l1], [.inl x0], μ, 0, 0) = W_clearMarks ret (2, [l0, some (.inl x0)], [], μ, 0, 0) := mm_W_eq rf_hk_mono _
theorem r_clearMarks_2 (ret : Option mV → rf_M → Prop) (μ : rf_M) (y : Int32) (l0 : Option mV) : W_clearMarks ret (2, [l0, some (.inl y)], [], μ, 0, 0) = W_clearMarks ret (3, [l0, some (.inl y)], [.inl y], μ, 0, 0) := mm_W_eq rf_hk_mono _
theorem r_clearMarks_3 (ret : Option mV → rf_M → Prop) (μ : rf_M) (x0 : Int32) (ls : List (Option mV)) : W_clearMarks ret (3, ls, [.inl x0], μ, 0, 0) = W_clearMarks ret (6, ls, [.inl (nI 20480), .inl x0], μ, 0, 0) := mm_W_eq rf_hk_mono _
theorem r_clearMarks_6 (ret : Option mV → rf_M → Prop) (μ : rf_M) (x0 x1 : Int32) (ls : List (Option mV)) : W_clearMarks ret (6, ls, [.inl x0, .inl x1], μ, 0, 0) = ((x0 ≤ x1 → W_clearMarks ret (22, ls, [], μ, 0, 0)) ∧ (¬ x0 ≤ x1 → W_clearMarks ret (9, ls, [], μ, 0, 0))) := mm_W_eq rf_hk_mono _
theorem r_clearMarks_9 (ret : Option mV → rf_M → Prop) (μ : rf_M) (l1 : Option mV) : W_clearMarks ret (9, [some (.inr (some 39)), l1], [], μ, 0, 0) = W_clearMarks ret (10, [some (.inr (some 39)), l1], [.inr (some 39)], μ, 0, 0) := mm_W_eq rf_hk_mono _
theorem r_clearMarks_10 (ret : Option mV → rf_M → Prop) (μ : rf_M) (ls : List (Option mV)) : W_clearMarks ret (10, ls, [.inr (some 39)], μ, 0, 0) = W_clearMarks ret (13, ls, [.inr (some 4)], μ, 0, 0) := mm_W_eq rf_hk_mono _
theorem r_clearMarks_13 (ret : Option mV → rf_M → Prop) (μ : rf_M) (y : Int32) (l0 : Option mV) : W_clearMarks ret (13, [l0, some (.inl y)], [.inr (some 4)], μ, 0, 0) = W_clearMarks ret (14, [l0, some (.inl y)], [.inl y, .inr (some 4)], μ, 0, 0) := mm_W_eq rf_hk_mono _
theorem r_clearMarks_14 (ret : Option mV → rf_M → Prop) (μ : rf_M) (x0 : Int32) (ls : List (Option mV)) : W_clearMarks ret (14, ls, [.inl x0, .inr (some 4)], μ, 0, 0) = W_clearMarks ret (15, ls, [.inl (nI 0), .inl x0, .inr (some 4)], μ, 0, 0) := mm_W_eq rf_hk_mono _
theorem r_clearMarks_15 (ret : Option mV → rf_M → Prop) (μ : rf_M) (x0 x1 : Int32) (ls : List (Option mV)) : W_clearMarks ret (15, ls, [.inl x0, .inl x1, .inr (some 4)], μ, 0, 0) = (vp_in x1 20480 ∧ (x0 = 0 ∨ x0 = 1) ∧ W_clearMarks ret (16, ls, [], (μ.1, rf_up μ.2 4 x1.toNatClampNeg x0), 0, 0)) := mm_W_eq rf_hk_mono _
theorem r_clearMarks_16 (ret : Option mV → rf_M → Prop) (μ : rf_M) (y : Int32) (l0 : Option mV) : W_clearMarks ret (16, [l0, some (.inl y)], [], μ, 0, 0) = W_clearMarks ret (19, [l0, some (.inl (y + nI 1))], [], μ, 0, 0) := mm_W_eq rf_hk_mono _
set_option maxRecDepth 8000 in
theorem r_clearMarks_19 (ret : Option mV → rf_M → Prop) (μ : rf_M) (ls : List (Option mV)) : W_clearMarks ret (19, ls, [], μ, 0, 0) = W_clearMarks ret (2, ls, [], μ, 0, 0) := mm_W_eq rf_hk_mono _
theorem r_clearMarks_22 (ret : Option mV → rf_M → Prop) (μ : rf_M) (ls : List (Option mV)) : W_clearMarks ret (22, ls, [], μ, 0, 0) = ret none μ := mm_W_eq rf_hk_mono _
theorem e_clearMarks (μ : rf_M) (ret : Option mV → rf_M → Prop) (h : W_clearMarks ret (0, [some (.inr (some 39)), none], [], μ, 0, 0)) : P_clearMarks [.inr (some 39)] μ 0 0 ret := ⟨rfl, Nat.le_of_ble_eq_true rfl, h⟩
theorem so_clearMarks (l : Launch) (D : va_G) (cs sa ad : Nat → Nat) (A : Nat → Prop) : mm_So l (rf_W D cs ad A) (kk D cs sa A) ad A yX7_clearMarks cX7_clearMarks 2 none 0 P_clearMarks := rf_So (rf_sound (by decide) (by decide +kernel) rfl (fun p e mc ms s0 m args below meth c F hK hA => fun _ h => absurd h List.not_mem_nil))
/-! mark -/
def cd_mark : mC := [(0, .iconst 0, 1), (1, .istore_n 2, 1), (2, .iconst 0, 1), (3, .istore_n 3, 1), (4, .aload_n 0, 1), (5, .getfield 22, 3), (8, .iload_n 1, 1), (9, .baload, 1), (10, .ifCond .ne 19, 3), (13, .aload_n 0, 1), (14, .getfield 22, 3), (17, .iload_n 1, 1), (18, .iconst 1, 1), (19, .bastore, 1), (20, .aload_n 0, 1), (21, .getfield 64, 3), (24, .iconst 0, 1), (25, .iload_n 1, 1), (26, .iastore, 1), (27, .iconst 1, 1), (28, .istore_n 3, 1), (29, .iload_n 3, 1), (30, .ifCond .le 130, 3), (33, .iinc 3 (-1), 3), (36, .aload_n 0, 1), (37, .getfield 64, 3), (40, .iload_n 3, 1), (41, .iaload, 1), (42, .istore 4, 2), (44, .iinc 2 1, 3), (47, .aload_n 0, 1), (48, .getfield 7, 3), (51, .iload 4, 2), (53, .iaload, 1), (54, .iconst 1, 1), (55, .if_icmp .eq 47, 3), (58, .aload_n 0, 1), (59, .getfield 22, 3), (62, .aload_n 0, 1), (63, .getfield 13, 3), (66, .iload 4, 2), (68, .iaload, 1), (69, .baload, 1), (70, .ifCond .ne 32, 3), (73, .aload_n 0, 1), (74, .getfield 22, 3), (77, .aload_n 0, 1), (78, .getfield 13, 3), (81, .iload 4, 2), (83, .iaload, 1), (84, .iconst 1, 1), (85, .bastore, 1), (86, .aload_n 0, 1), (87, .getfield 64, 3), (90, .iload_n 3, 1), (91, .aload_n 0, 1), (92, .getfield 13, 3), (95, .iload 4, 2), (97, .iaload, 1), (98, .iastore, 1), (99, .iinc 3 1, 3), (102, .aload_n 0, 1), (103, .getfield 7, 3), (106, .iload 4, 2), (108, .iaload, 1), (109, .iconst 2, 1), (110, .if_icmp .ne 47, 3), (113, .aload_n 0, 1), (114, .getfield 22, 3), (117, .aload_n 0, 1), (118, .getfield 16, 3), (121, .iload 4, 2), (123, .iaload, 1), (124, .baload, 1), (125, .ifCond .ne 32, 3), (128, .aload_n 0, 1), (129, .getfield 22, 3), (132, .aload_n 0, 1), (133, .getfield 16, 3), (136, .iload 4, 2), (138, .iaload, 1), (139, .iconst 1, 1), (140, .bastore, 1), (141, .aload_n 0, 1), (142, .getfield 64, 3), (145, .iload_n 3, 1), (146, .aload_n 0, 1), (147, .getfield 16, 3), (150, .iload 4, 2), (152, .iaload, 1), (153, .iastore, 1), (154, .iinc 3 1, 3), (157, .goto (-128), 3), (160, .iload_n 2, 1), (161, .ireturn, 1)]
def sp_mark : mQ rf_M := []
def W_mark (ret : Option mV → rf_M → Prop) : mX rf_M → Prop := mm_W 1 cd_mark rf_hk sp_mark ret
def P_mark : mP rf_M := rf_P (mm_Pm 1 cd_mark rf_hk sp_mark 5)
theorem r_mark_0 (ret : Option mV → rf_M → Prop) (μ : rf_M) (ls : List (Option mV)) : W_mark ret (0, ls, [], μ, 0, 0) = W_mark ret (1, ls, [.inl (nI 0)], μ, 0, 0) := mm_W_eq rf_hk_mono _
theorem r_mark_1 (ret : Option mV → rf_M → Prop) (μ : rf_M) (x0 : Int32) (l0 l1 l2 l3 l4 : Option mV) : W_mark ret (1, [l0, l1, l2, l3, l4], [.inl x0], μ, 0, 0) = W_mark ret (2, [l0, l1, some (.inl x0), l3, l4], [], μ, 0, 0) := mm_W_eq rf_hk_mono _
theorem r_mark_2 (ret : Option mV → rf_M → Prop) (μ : rf_M) (ls : List (Option mV)) : W_mark ret (2, ls, [], μ, 0, 0) = W_mark ret (3, ls, [.inl (nI 0)], μ, 0, 0) := mm_W_eq rf_hk_mono _
theorem r_mark_3 (ret : Option mV → rf_M → Prop) (μ : rf_M) (x0 : Int32) (l0 l1 l2 l3 l4 : Option mV) : W_mark ret (3, [l0, l1, l2, l3, l4], [.inl x0], μ, 0, 0) = W_mark ret (4, [l0, l1, l2, some (.inl x0), l4], [], μ, 0, 0) := mm_W_eq rf_hk_mono _
theorem r_mark_4 (ret : Option mV → rf_M → Prop) (μ : rf_M) (l1 l2 l3 l4 : Option mV) : W_mark ret (4, [some (.inr (some 39)), l1, l2, l3, l4], [], μ, 0, 0) = W_mark ret (5, [some (.inr (some 39)), l1, l2, l3, l4], [.inr (some 39)], μ, 0, 0) := mm_W_eq rf_hk_mono _
theorem r_mark_5 (ret : Option mV → rf_M → Prop) (μ : rf_M) (ls : List (Option mV)) : W_mark ret (5, ls, [.inr (some 39)], μ, 0, 0) = W_mark ret (8, ls, [.inr (some 4)], μ, 0, 0) := mm_W_eq rf_hk_mono _
theorem r_mark_8 (ret : Option mV → rf_M → Prop) (μ : rf_M) (y : Int32) (l0 l2 l3 l4 : Option mV) : W_mark ret (8, [l0, some (.inl y), l2, l3, l4], [.inr (some 4)], μ, 0, 0) = W_mark ret (9, [l0, some (.inl y), l2, l3, l4], [.inl y, .inr (some 4)], μ, 0, 0) := mm_W_eq rf_hk_mono _
theorem r_mark_9 (ret : Option mV → rf_M → Prop) (μ : rf_M) (x0 : Int32) (ls : List (Option mV)) : W_mark ret (9, ls, [.inl x0, .inr (some 4)], μ, 0, 0) = (vp_in x0 20480 ∧ W_mark ret (10, ls, [.inl (μ.2 4 x0.toNatClampNeg)], μ, 0, 0)) := mm_W_eq rf_hk_mono _
theorem r_mark_10 (ret : Option mV → rf_M → Prop) (μ : rf_M) (x0 : Int32) (ls : List (Option mV)) : W_mark ret (10, ls, [.inl x0], μ, 0, 0) = ((¬ x0 = 0 → W_mark ret (29, ls, [], μ, 0, 0)) ∧ (¬ (¬ x0 = 0) → W_mark ret (13, ls, [], μ, 0, 0))) := mm_W_eq rf_hk_mono _
theorem r_mark_13 (ret : Option mV → rf_M → Prop) (μ : rf_M) (l1 l2 l3 l4 : Option mV) : W_mark ret (13, [some (.inr (some 39)), l1, l2, l3, l4], [], μ, 0, 0) = W_mark ret (14, [some (.inr (some 39)), l1, l2, l3, l4], [.inr (some 39)], μ, 0, 0) := mm_W_eq rf_hk_mono _
theorem r_mark_14 (ret : Option mV → rf_M → Prop) (μ : rf_M) (ls : List (Option mV)) : W_mark ret (14, ls, [.inr (some 39)], μ, 0, 0) = W_mark ret (17, ls, [.inr (some 4)], μ, 0, 0) := mm_W_eq rf_hk_mono _
theorem r_mark_17 (ret : Option mV → rf_M → Prop) (μ : rf_M) (y : Int32) (l0 l2 l3 l4 : Option mV) : W_mark ret (17, [l0, some (.inl y), l2, l3, l4], [.inr (some 4)], μ, 0, 0) = W_mark ret (18, [l0, some (.inl y), l2, l3, l4], [.inl y, .inr (some 4)], μ, 0, 0) := mm_W_eq rf_hk_mono _
theorem r_mark_18 (ret : Option mV → rf_M → Prop) (μ : rf_M) (x0 : Int32) (ls : List (Option mV)) : W_mark ret (18, ls, [.inl x0, .inr (some 4)], μ, 0, 0) = W_mark ret (19, ls, [.inl (nI 1), .inl x0, .inr (some 4)], μ, 0, 0) := mm_W_eq rf_hk_mono _
theorem r_mark_19 (ret : Option mV → rf_M → Prop) (μ : rf_M) (x0 x1 : Int32) (ls : List (Option mV)) : W_mark ret (19, ls, [.inl x0, .inl x1, .inr (some 4)], μ, 0, 0) = (vp_in x1 20480 ∧ (x0 = 0 ∨ x0 = 1) ∧ W_mark ret (20, ls, [], (μ.1, rf_up μ.2 4 x1.toNatClampNeg x0), 0, 0)) := mm_W_eq rf_hk_mono _
theorem r_mark_20 (ret : Option mV → rf_M → Prop) (μ : rf_M) (l1 l2 l3 l4 : Option mV) : W_mark ret (20, [some (.inr (some 39)), l1, l2, l3, l4], [], μ, 0, 0) = W_mark ret (21, [some (.inr (some 39)), l1, l2, l3, l4], [.inr (some 39)], μ, 0, 0) := mm_W_eq rf_hk_mono _
theorem r_mark_21 (ret : Option mV → rf_M → Prop) (μ : rf_M) (ls : List (Option mV)) : W_mark ret (21, ls, [.inr (some 39)], μ, 0, 0) = W_mark ret (24, ls, [.inr (some 22)], μ, 0, 0) := mm_W_eq rf_hk_mono _
theorem r_mark_24 (ret : Option mV → rf_M → Prop) (μ : rf_M) (ls : List (Option mV)) : W_mark ret (24, ls, [.inr (some 22)], μ, 0, 0) = W_mark ret (25, ls, [.inl (nI 0), .inr (some 22)], μ, 0, 0) := mm_W_eq rf_hk_mono _
theorem r_mark_25 (ret : Option mV → rf_M → Prop) (μ : rf_M) (x0 y : Int32) (l0 l2 l3 l4 : Option mV) : W_mark ret (25, [l0, some (.inl y), l2, l3, l4], [.inl x0, .inr (some 22)], μ, 0, 0) = W_mark ret (26, [l0, some (.inl y), l2, l3, l4], [.inl y, .inl x0, .inr (some 22)], μ, 0, 0) := mm_W_eq rf_hk_mono _
theorem r_mark_26 (ret : Option mV → rf_M → Prop) (μ : rf_M) (x0 x1 : Int32) (ls : List (Option mV)) : W_mark ret (26, ls, [.inl x0, .inl x1, .inr (some 22)], μ, 0, 0) = (vp_in x1 20480 ∧ W_mark ret (27, ls, [], (μ.1, rf_up μ.2 22 x1.toNatClampNeg x0), 0, 0)) := mm_W_eq rf_hk_mono _
theorem r_mark_27 (ret : Option mV → rf_M → Prop) (μ : rf_M) (ls : List (Option mV)) : W_mark ret (27, ls, [], μ, 0, 0) = W_mark ret (28, ls, [.inl (nI 1)], μ, 0, 0) := mm_W_eq rf_hk_mono _
theorem r_mark_28 (ret : Option mV → rf_M → Prop) (μ : rf_M) (x0 : Int32) (l0 l1 l2 l3 l4 : Option mV) : W_mark ret (28, [l0, l1, l2, l3, l4], [.inl x0], μ, 0, 0) = W_mark ret (29, [l0, l1, l2, some (.inl x0), l4], [], μ, 0, 0) := mm_W_eq rf_hk_mono _
theorem r_mark_29 (ret : Option mV → rf_M → Prop) (μ : rf_M) (y : Int32) (l0 l1 l2 l4 : Option mV) : W_mark ret (29, [l0, l1, l2, some (.inl y), l4], [], μ, 0, 0) = W_mark ret (30, [l0, l1, l2, some (.inl y), l4], [.inl y], μ, 0, 0) := mm_W_eq rf_hk_mono _
theorem r_mark_30 (ret : Option mV → rf_M → Prop) (μ : rf_M) (x0 : Int32) (ls : List (Option mV)) : W_mark ret (30, ls, [.inl x0], μ, 0, 0) = ((x0 ≤ 0 → W_mark ret (160, ls, [], μ, 0, 0)) ∧ (¬ x0 ≤ 0 → W_mark ret (33, ls, [], μ, 0, 0))) := mm_W_eq rf_hk_mono _
theorem r_mark_33 (ret : Option mV → rf_M → Prop) (μ : rf_M) (y : Int32) (l0 l1 l2 l4 : Option mV) : W_mark ret (33, [l0, l1, l2, some (.inl y), l4], [], μ, 0, 0) = W_mark ret (36, [l0, l1, l2, some (.inl (y + Int32.ofInt (-1))), l4], [], μ, 0, 0) := mm_W_eq rf_hk_mono _
theorem r_mark_36 (ret : Option mV → rf_M → Prop) (μ : rf_M) (l1 l2 l3 l4 : Option mV) : W_mark ret (36, [some (.inr (some 39)), l1, l2, l3, l4], [], μ, 0, 0) = W_mark ret (37, [some (.inr (some 39)), l1, l2, l3, l4], [.inr (some 39)], μ, 0, 0) := mm_W_eq rf_hk_mono _
theorem r_mark_37 (ret : Option mV → rf_M → Prop) (μ : rf_M) (ls : List (Option mV)) : W_mark ret (37, ls, [.inr (some 39)], μ, 0, 0) = W_mark ret (40, ls, [.inr (some 22)], μ, 0, 0) := mm_W_eq rf_hk_mono _
theorem r_mark_40 (ret : Option mV → rf_M → Prop) (μ : rf_M) (y : Int32) (l0 l1 l2 l4 : Option mV) : W_mark ret (40, [l0, l1, l2, some (.inl y), l4], [.inr (some 22)], μ, 0, 0) = W_mark ret (41, [l0, l1, l2, some (.inl y), l4], [.inl y, .inr (some 22)], μ, 0, 0) := mm_W_eq rf_hk_mono _
theorem r_mark_41 (ret : Option mV → rf_M → Prop) (μ : rf_M) (x0 : Int32) (ls : List (Option mV)) : W_mark ret (41, ls, [.inl x0, .inr (some 22)], μ, 0, 0) = (vp_in x0 20480 ∧ W_mark ret (42, ls, [.inl (μ.2 22 x0.toNatClampNeg)], μ, 0, 0)) := mm_W_eq rf_hk_mono _
theorem r_mark_42 (ret : Option mV → rf_M → Prop) (μ : rf_M) (x0 : Int32) (l0 l1 l2 l3 l4 : Option mV) : W_mark ret (42, [l0, l1, l2, l3, l4], [.inl x0], μ, 0, 0) = W_mark ret (44, [l0, l1, l2, l3, some (.inl x0)], [], μ, 0, 0) := mm_W_eq rf_hk_mono _
theorem r_mark_44 (ret : Option mV → rf_M → Prop) (μ : rf_M) (y : Int32) (l0 l1 l3 l4 : Option mV) : W_mark ret (44, [l0, l1, some (.inl y), l3, l4], [], μ, 0, 0) = W_mark ret (47, [l0, l1, some (.inl (y + nI 1)), l3, l4], [], μ, 0, 0) := mm_W_eq rf_hk_mono _
theorem r_mark_47 (ret : Option mV → rf_M → Prop) (μ : rf_M) (l1 l2 l3 l4 : Option mV) : W_mark ret (47, [some (.inr (some 39)), l1, l2, l3, l4], [], μ, 0, 0) = W_mark ret (48, [some (.inr (some 39)), l1, l2, l3, l4], [.inr (some 39)], μ, 0, 0) := mm_W_eq rf_hk_mono _
theorem r_mark_48 (ret : Option mV → rf_M → Prop) (μ : rf_M) (ls : List (Option mV)) : W_mark ret (48, ls, [.inr (some 39)], μ, 0, 0) = W_mark ret (51, ls, [.inr (some 0)], μ, 0, 0) := mm_W_eq rf_hk_mono _
theorem r_mark_51 (ret : Option mV → rf_M → Prop) (μ : rf_M) (y : Int32) (l0 l1 l2 l3 : Option mV) : W_mark ret (51, [l0, l1, l2, l3, some (.inl y)], [.inr (some 0)], μ, 0, 0) = W_mark ret (53, [l0, l1, l2, l3, some (.inl y)], [.inl y, .inr (some 0)], μ, 0, 0) := mm_W_eq rf_hk_mono _
theorem r_mark_53 (ret : Option mV → rf_M → Prop) (μ : rf_M) (x0 : Int32) (ls : List (Option mV)) : W_mark ret (53, ls, [.inl x0, .inr (some 0)], μ, 0, 0) = (vp_in x0 20480 ∧ W_mark ret (54, ls, [.inl (μ.2 0 x0.toNatClampNeg)], μ, 0, 0)) := mm_W_eq rf_hk_mono _
theorem r_mark_54 (ret : Option mV → rf_M → Prop) (μ : rf_M) (x0 : Int32) (ls : List (Option mV)) : W_mark ret (54, ls, [.inl x0], μ, 0, 0) = W_mark ret (55, ls, [.inl (nI 1), .inl x0], μ, 0, 0) := mm_W_eq rf_hk_mono _
theorem r_mark_55 (ret : Option mV → rf_M → Prop) (μ : rf_M) (x0 x1 : Int32) (ls : List (Option mV)) : W_mark ret (55, ls, [.inl x0, .inl x1], μ, 0, 0) = ((x1 = x0 → W_mark ret (102, ls, [], μ, 0, 0)) ∧ (¬ x1 = x0 → W_mark ret (58, ls, [], μ, 0, 0))) := mm_W_eq rf_hk_mono _
theorem r_mark_58 (ret : Option mV → rf_M → Prop) (μ : rf_M) (l1 l2 l3 l4 : Option mV) : W_mark ret (58, [some (.inr (some 39)), l1, l2, l3, l4], [], μ, 0, 0) = W_mark ret (59, [some (.inr (some 39)), l1, l2, l3, l4], [.inr (some 39)], μ, 0, 0) := mm_W_eq rf_hk_mono _
theorem r_mark_59 (ret : Option mV → rf_M → Prop) (μ : rf_M) (ls : List (Option mV)) : W_mark ret (59, ls, [.inr (some 39)], μ, 0, 0) = W_mark ret (62, ls, [.inr (some 4)], μ, 0, 0) := mm_W_eq rf_hk_mono _
set_option maxRecDepth 8000 in
theorem r_mark_62 (ret : Option mV → rf_M → Prop) (μ : rf_M) (l1 l2 l3 l4 : Option mV) : W_mark ret (62, [some (.inr (some 39)), l1, l2, l3, l4], [.inr (some 4)], μ, 0, 0) = W_mark ret (63, [some (.inr (some 39)), l1, l2, l3, l4], [.inr (some 39), .inr (some 4)], μ, 0, 0) := mm_W_eq rf_hk_mono _
set_option maxRecDepth 8000 in
theorem r_mark_63 (ret : Option mV → rf_M → Prop) (μ : rf_M) (ls : List (Option mV)) : W_mark ret (63, ls, [.inr (some 39), .inr (some 4)], μ, 0, 0) = W_mark ret (66, ls, [.inr (some 1), .inr (some 4)], μ, 0, 0) := mm_W_eq rf_hk_mono _
set_option maxRecDepth 8000 in
theorem r_mark_66 (ret : Option mV → rf_M → Prop) (μ : rf_M) (y : Int32) (l0 l1 l2 l3 : Option mV) : W_mark ret (66, [l0, l1, l2, l3, some (.inl y)], [.inr (some 1), .inr (some 4)], μ, 0, 0) = W_mark ret (68, [l0, l1, l2, l3, some (.inl y)], [.inl y, .inr (some 1), .inr (some 4)], μ, 0, 0) := mm_W_eq rf_hk_mono _
set_option maxRecDepth 8000 in
theorem r_mark_68 (ret : Option mV → rf_M → Prop) (μ : rf_M) (x0 : Int32) (ls : List (Option mV)) : W_mark ret (68, ls, [.inl x0, .inr (some 1), .inr (some 4)], μ, 0, 0) = (vp_in x0 20480 ∧ W_mark ret (69, ls, [.inl (μ.2 1 x0.toNatClampNeg), .inr (some 4)], μ, 0, 0)) := mm_W_eq rf_hk_mono _
set_option maxRecDepth 8000 in
theorem r_mark_69 (ret : Option mV → rf_M → Prop) (μ : rf_M) (x0 : Int32) (ls : List (Option mV)) : W_mark ret (69, ls, [.inl x0, .inr (some 4)], μ, 0, 0) = (vp_in x0 20480 ∧ W_mark ret (70, ls, [.inl (μ.2 4 x0.toNatClampNeg)], μ, 0, 0)) := mm_W_eq rf_hk_mono _
set_option maxRecDepth 8000 in
theorem r_mark_70 (ret : Option mV → rf_M → Prop) (μ : rf_M) (x0 : Int32) (ls : List (Option mV)) : W_mark ret (70, ls, [.inl x0], μ, 0, 0) = ((¬ x0 = 0 → W_mark ret (102, ls, [], μ, 0, 0)) ∧ (¬ (¬ x0 = 0) → W_mark ret (73, ls, [], μ, 0, 0))) := mm_W_eq rf_hk_mono _
set_option maxRecDepth 8000 in
theorem r_mark_73 (ret : Option mV → rf_M → Prop) (μ : rf_M) (l1 l2 l3 l4 : Option mV) : W_mark ret (73, [some (.inr (some 39)), l1, l2, l3, l4], [], μ, 0, 0) = W_mark ret (74, [some (.inr (some 39)), l1, l2, l3, l4], [.inr (some 39)], μ, 0, 0) := mm_W_eq rf_hk_mono _
set_option maxRecDepth 8000 in
theorem r_mark_74 (ret : Option mV → rf_M → Prop) (μ : rf_M) (ls : List (Option mV)) : W_mark ret (74, ls, [.inr (some 39)], μ, 0, 0) = W_mark ret (77, ls, [.inr (some 4)], μ, 0, 0) := mm_W_eq rf_hk_mono _
set_option maxRecDepth 8000 in
theorem r_mark_77 (ret : Option mV → rf_M → Prop) (μ : rf_M) (l1 l2 l3 l4 : Option mV) : W_mark ret (77, [some (.inr (some 39)), l1, l2, l3, l4], [.inr (some 4)], μ, 0, 0) = W_mark ret (78, [some (.inr (some 39)), l1, l2, l3, l4], [.inr (some 39), .inr (some 4)], μ, 0, 0) := mm_W_eq rf_hk_mono _
set_option maxRecDepth 8000 in
theorem r_mark_78 (ret : Option mV → rf_M → Prop) (μ : rf_M) (ls : List (Option mV)) : W_mark ret (78, ls, [.inr (some 39), .inr (some 4)], μ, 0, 0) = W_mark ret (81, ls, [.inr (some 1), .inr (some 4)], μ, 0, 0) := mm_W_eq rf_hk_mono _
set_option maxRecDepth 8000 in
theorem r_mark_81 (ret : Option mV → rf_M → Prop) (μ : rf_M) (y : Int32) (l0 l1 l2 l3 : Option mV) : W_mark ret (81, [l0, l1, l2, l3, some (.inl y)], [.inr (some 1), .inr (some 4)], μ, 0, 0) = W_mark ret (83, [l0, l1, l2, l3, some (.inl y)], [.inl y, .inr (some 1), .inr (some 4)], μ, 0, 0) := mm_W_eq rf_hk_mono _
set_option maxRecDepth 8000 in
theorem r_mark_83 (ret : Option mV → rf_M → Prop) (μ : rf_M) (x0 : Int32) (ls : List (Option mV)) : W_mark ret (83, ls, [.inl x0, .inr (some 1), .inr (some 4)], μ, 0, 0) = (vp_in x0 20480 ∧ W_mark ret (84, ls, [.inl (μ.2 1 x0.toNatClampNeg), .inr (some 4)], μ, 0, 0)) := mm_W_eq rf_hk_mono _
set_option maxRecDepth 8000 in
theorem r_mark_84 (ret : Option mV → rf_M → Prop) (μ : rf_M) (x0 : Int32) (ls : List (Option mV)) : W_mark ret (84, ls, [.inl x0, .inr (some 4)], μ, 0, 0) = W_mark ret (85, ls, [.inl (nI 1), .inl x0, .inr (some 4)], μ, 0, 0) := mm_W_eq rf_hk_mono _
set_option maxRecDepth 8000 in
theorem r_mark_85 (ret : Option mV → rf_M → Prop) (μ : rf_M) (x0 x1 : Int32) (ls : List (Option mV)) : W_mark ret (85, ls, [.inl x0, .inl x1, .inr (some 4)], μ, 0, 0) = (vp_in x1 20480 ∧ (x0 = 0 ∨ x0 = 1) ∧ W_mark ret (86, ls, [], (μ.1, rf_up μ.2 4 x1.toNatClampNeg x0), 0, 0)) := mm_W_eq rf_hk_mono _
set_option maxRecDepth 8000 in
theorem r_mark_86 (ret : Option mV → rf_M → Prop) (μ : rf_M) (l1 l2 l3 l4 : Option mV) : W_mark ret (86, [some (.inr (some 39)), l1, l2, l3, l4], [], μ, 0, 0) = W_mark ret (87, [some (.inr (some 39)), l1, l2, l3, l4], [.inr (some 39)], μ, 0, 0) := mm_W_eq rf_hk_mono _
set_option maxRecDepth 8000 in
theorem r_mark_87 (ret : Option mV → rf_M → Prop) (μ : rf_M) (ls : List (Option mV)) : W_mark ret (87, ls, [.inr (some 39)], μ, 0, 0) = W_mark ret (90, ls, [.inr (some 22)], μ, 0, 0) := mm_W_eq rf_hk_mono _
set_option maxRecDepth 8000 in
theorem r_mark_90 (ret : Option mV → rf_M → Prop) (μ : rf_M) (y : Int32) (l0 l1 l2 l4 : Option mV) : W_mark ret (90, [l0, l1, l2, some (.inl y), l4], [.inr (some 22)], μ, 0, 0) = W_mark ret (91, [l0, l1, l2, some (.inl y), l4], [.inl y, .inr (some 22)], μ, 0, 0) := mm_W_eq rf_hk_mono _
set_option maxRecDepth 8000 in
theorem r_mark_91 (ret : Option mV → rf_M → Prop) (μ : rf_M) (x0 : Int32) (l1 l2 l3 l4 : Option mV) : W_mark ret (91, [some (.inr (some 39)), l1, l2, l3, l4], [.inl x0, .inr (some 22)], μ, 0, 0) = W_mark ret (92, [some (.inr (some 39)), l1, l2, l3, l4], [.inr (some 39), .inl x0, .inr (some 22)], μ, 0, 0) := mm_W_eq rf_hk_mono _
set_option maxRecDepth 8000 in
theorem r_mark_92 (ret : Option mV → rf_M → Prop) (μ : rf_M) (x1 : Int32) (ls : List (Option mV)) : W_mark ret (92, ls, [.inr (some 39), .inl x1, .inr (some 22)], μ, 0, 0) = W_mark ret (95, ls, [.inr (some 1), .inl x1, .inr (some 22)], μ, 0, 0) := mm_W_eq rf_hk_mono _
set_option maxRecDepth 8000 in
theorem r_mark_95 (ret : Option mV → rf_M → Prop) (μ : rf_M) (x1 y : Int32) (l0 l1 l2 l3 : Option mV) : W_mark ret (95, [l0, l1, l2, l3, some (.inl y)], [.inr (some 1), .inl x1, .inr (some 22)], μ, 0, 0) = W_mark ret (97, [l0, l1, l2, l3, some (.inl y)], [.inl y, .inr (some 1), .inl x1, .inr (some 22)], μ, 0, 0) := mm_W_eq rf_hk_mono _
set_option maxRecDepth 8000 in
theorem r_mark_97 (ret : Option mV → rf_M → Prop) (μ : rf_M) (x0 x2 : Int32) (ls : List (Option mV)) : W_mark ret (97, ls, [.inl x0, .inr (some 1), .inl x2, .inr (some 22)], μ, 0, 0) = (vp_in x0 20480 ∧ W_mark ret (98, ls, [.inl (μ.2 1 x0.toNatClampNeg), .inl x2, .inr (some 22)], μ, 0, 0)) := mm_W_eq rf_hk_mono _
set_option maxRecDepth 8000 in
theorem r_mark_98 (ret : Option mV → rf_M → Prop) (μ : rf_M) (x0 x1 : Int32) (ls : List (Option mV)) : W_mark ret (98, ls, [.inl x0, .inl x1, .inr (some 22)], μ, 0, 0) = (vp_in x1 20480 ∧ W_mark ret (99, ls, [], (μ.1, rf_up μ.2 22 x1.toNatClampNeg x0), 0, 0)) := mm_W_eq rf_hk_mono _
set_option maxRecDepth 8000 in
theorem r_mark_99 (ret : Option mV → rf_M → Prop) (μ : rf_M) (y : Int32) (l0 l1 l2 l4 : Option mV) : W_mark ret (99, [l0, l1, l2, some (.inl y), l4], [], μ, 0, 0) = W_mark ret (102, [l0, l1, l2, some (.inl (y + nI 1)), l4], [], μ, 0, 0) := mm_W_eq rf_hk_mono _
set_option maxRecDepth 8000 in
theorem r_mark_102 (ret : Option mV → rf_M → Prop) (μ : rf_M) (l1 l2 l3 l4 : Option mV) : W_mark ret (102, [some (.inr (some 39)), l1, l2, l3, l4], [], μ, 0, 0) = W_mark ret (103, [some (.inr (some 39)), l1, l2, l3, l4], [.inr (some 39)], μ, 0, 0) := mm_W_eq rf_hk_mono _
set_option maxRecDepth 8000 in
theorem r_mark_103 (ret : Option mV → rf_M → Prop) (μ : rf_M) (ls : List (Option mV)) : W_mark ret (103, ls, [.inr (some 39)], μ, 0, 0) = W_mark ret (106, ls, [.inr (some 0)], μ, 0, 0) := mm_W_eq rf_hk_mono _
set_option maxRecDepth 8000 in
theorem r_mark_106 (ret : Option mV → rf_M → Prop) (μ : rf_M) (y : Int32) (l0 l1 l2 l3 : Option mV) : W_mark ret (106, [l0, l1, l2, l3, some (.inl y)], [.inr (some 0)], μ, 0, 0) = W_mark ret (108, [l0, l1, l2, l3, some (.inl y)], [.inl y, .inr (some 0)], μ, 0, 0) := mm_W_eq rf_hk_mono _
set_option maxRecDepth 8000 in
theorem r_mark_108 (ret : Option mV → rf_M → Prop) (μ : rf_M) (x0 : Int32) (ls : List (Option mV)) : W_mark ret (108, ls, [.inl x0, .inr (some 0)], μ, 0, 0) = (vp_in x0 20480 ∧ W_mark ret (109, ls, [.inl (μ.2 0 x0.toNatClampNeg)], μ, 0, 0)) := mm_W_eq rf_hk_mono _
set_option maxRecDepth 8000 in
theorem r_mark_109 (ret : Option mV → rf_M → Prop) (μ : rf_M) (x0 : Int32) (ls : List (Option mV)) : W_mark ret (109, ls, [.inl x0], μ, 0, 0) = W_mark ret (110, ls, [.inl (nI 2), .inl x0], μ, 0, 0) := mm_W_eq rf_hk_mono _
set_option maxRecDepth 8000 in
theorem r_mark_110 (ret : Option mV → rf_M → Prop) (μ : rf_M) (x0 x1 : Int32) (ls : List (Option mV)) : W_mark ret (110, ls, [.inl x0, .inl x1], μ, 0, 0) = ((¬ x1 = x0 → W_mark ret (157, ls, [], μ, 0, 0)) ∧ (¬ (¬ x1 = x0) → W_mark ret (113, ls, [], μ, 0, 0))) := mm_W_eq rf_hk_mono _
set_option maxRecDepth 8000 in
theorem r_mark_113 (ret : Option mV → rf_M → Prop) (μ : rf_M) (l1 l2 l3 l4 : Option mV) : W_mark ret (113, [some (.inr (some 39)), l1, l2, l3, l4], [], μ, 0, 0) = W_mark ret (114, [some (.inr (some 39)), l1, l2, l3, l4], [.inr (some 39)], μ, 0, 0) := mm_W_eq rf_hk_mono _
set_option maxRecDepth 8000 in
theorem r_mark_114 (ret : Option mV → rf_M → Prop) (μ : rf_M) (ls : List (Option mV)) : W_mark ret (114, ls, [.inr (some 39)], μ, 0, 0) = W_mark ret (117, ls, [.inr (some 4)], μ, 0, 0) := mm_W_eq rf_hk_mono _
set_option maxRecDepth 8000 in
theorem r_mark_117 (ret : Option mV → rf_M → Prop) (μ : rf_M) (l1 l2 l3 l4 : Option mV) : W_mark ret (117, [some (.inr (some 39)), l1, l2, l3, l4], [.inr (some 4)], μ, 0, 0) = W_mark ret (118, [some (.inr (some 39)), l1, l2, l3, l4], [.inr (some 39), .inr (some 4)], μ, 0, 0) := mm_W_eq rf_hk_mono _
set_option maxRecDepth 8000 in
theorem r_mark_118 (ret : Option mV → rf_M → Prop) (μ : rf_M) (ls : List (Option mV)) : W_mark ret (118, ls, [.inr (some 39), .inr (some 4)], μ, 0, 0) = W_mark ret (121, ls, [.inr (some 2), .inr (some 4)], μ, 0, 0) := mm_W_eq rf_hk_mono _
set_option maxRecDepth 8000 in
theorem r_mark_121 (ret : Option mV → rf_M → Prop) (μ : rf_M) (y : Int32) (l0 l1 l2 l3 : Option mV) : W_mark ret (121, [l0, l1, l2, l3, some (.inl y)], [.inr (some 2), .inr (some 4)], μ, 0, 0) = W_mark ret (123, [l0, l1, l2, l3, some (.inl y)], [.inl y, .inr (some 2), .inr (some 4)], μ, 0, 0) := mm_W_eq rf_hk_mono _
set_option maxRecDepth 8000 in
theorem r_mark_123 (ret : Option mV → rf_M → Prop) (μ : rf_M) (x0 : Int32) (ls : List (Option mV)) : W_mark ret (123, ls, [.inl x0, .inr (some 2), .inr (some 4)], μ, 0, 0) = (vp_in x0 20480 ∧ W_mark ret (124, ls, [.inl (μ.2 2 x0.toNatClampNeg), .inr (some 4)], μ, 0, 0)) := mm_W_eq rf_hk_mono _
set_option maxRecDepth 8000 in
theorem r_mark_124 (ret : Option mV → rf_M → Prop) (μ : rf_M) (x0 : Int32) (ls : List (Option mV)) : W_mark ret (124, ls, [.inl x0, .inr (some 4)], μ, 0, 0) = (vp_in x0 20480 ∧ W_mark ret (125, ls, [.inl (μ.2 4 x0.toNatClampNeg)], μ, 0, 0)) := mm_W_eq rf_hk_mono _
set_option maxRecDepth 8000 in
theorem r_mark_125 (ret : Option mV → rf_M → Prop) (μ : rf_M) (x0 : Int32) (ls : List (Option mV)) : W_mark ret (125, ls, [.inl x0], μ, 0, 0) = ((¬ x0 = 0 → W_mark ret (157, ls, [], μ, 0, 0)) ∧ (¬ (¬ x0 = 0) → W_mark ret (128, ls, [], μ, 0, 0))) := mm_W_eq rf_hk_mono _
set_option maxRecDepth 8000 in
theorem r_mark_128 (ret : Option mV → rf_M → Prop) (μ : rf_M) (l1 l2 l3 l4 : Option mV) : W_mark ret (128, [some (.inr (some 39)), l1, l2, l3, l4], [], μ, 0, 0) = W_mark ret (129, [some (.inr (some 39)), l1, l2, l3, l4], [.inr (some 39)], μ, 0, 0) := mm_W_eq rf_hk_mono _
set_option maxRecDepth 8000 in
theorem r_mark_129 (ret : Option mV → rf_M → Prop) (μ : rf_M) (ls : List (Option mV)) : W_mark ret (129, ls, [.inr (some 39)], μ, 0, 0) = W_mark ret (132, ls, [.inr (some 4)], μ, 0, 0) := mm_W_eq rf_hk_mono _
set_option maxRecDepth 8000 in
theorem r_mark_132 (ret : Option mV → rf_M → Prop) (μ : rf_M) (l1 l2 l3 l4 : Option mV) : W_mark ret (132, [some (.inr (some 39)), l1, l2, l3, l4], [.inr (some 4)], μ, 0, 0) = W_mark ret (133, [some (.inr (some 39)), l1, l2, l3, l4], [.inr (some 39), .inr (some 4)], μ, 0, 0) := mm_W_eq rf_hk_mono _
set_option maxRecDepth 8000 in
theorem r_mark_133 (ret : Option mV → rf_M → Prop) (μ : rf_M) (ls : List (Option mV)) : W_mark ret (133, ls, [.inr (some 39), .inr (some 4)], μ, 0, 0) = W_mark ret (136, ls, [.inr (some 2), .inr (some 4)], μ, 0, 0) := mm_W_eq rf_hk_mono _
set_option maxRecDepth 8000 in
theorem r_mark_136 (ret : Option mV → rf_M → Prop) (μ : rf_M) (y : Int32) (l0 l1 l2 l3 : Option mV) : W_mark ret (136, [l0, l1, l2, l3, some (.inl y)], [.inr (some 2), .inr (some 4)], μ, 0, 0) = W_mark ret (138, [l0, l1, l2, l3, some (.inl y)], [.inl y, .inr (some 2), .inr (some 4)], μ, 0, 0) := mm_W_eq rf_hk_mono _
set_option maxRecDepth 8000 in
theorem r_mark_138 (ret : Option mV → rf_M → Prop) (μ : rf_M) (x0 : Int32) (ls : List (Option mV)) : W_mark ret (138, ls, [.inl x0, .inr (some 2), .inr (some 4)], μ, 0, 0) = (vp_in x0 20480 ∧ W_mark ret (139, ls, [.inl (μ.2 2 x0.toNatClampNeg), .inr (some 4)], μ, 0, 0)) := mm_W_eq rf_hk_mono _
set_option maxRecDepth 8000 in
theorem r_mark_139 (ret : Option mV → rf_M → Prop) (μ : rf_M) (x0 : Int32) (ls : List (Option mV)) : W_mark ret (139, ls, [.inl x0, .inr (some 4)], μ, 0, 0) = W_mark ret (140, ls, [.inl (nI 1), .inl x0, .inr (some 4)], μ, 0, 0) := mm_W_eq rf_hk_mono _
set_option maxRecDepth 8000 in
theorem r_mark_140 (ret : Option mV → rf_M → Prop) (μ : rf_M) (x0 x1 : Int32) (ls : List (Option mV)) : W_mark ret (140, ls, [.inl x0, .inl x1, .inr (some 4)], μ, 0, 0) = (vp_in x1 20480 ∧ (x0 = 0 ∨ x0 = 1) ∧ W_mark ret (141, ls, [], (μ.1, rf_up μ.2 4 x1.toNatClampNeg x0), 0, 0)) := mm_W_eq rf_hk_mono _
set_option maxRecDepth 8000 in
theorem r_mark_141 (ret : Option mV → rf_M → Prop) (μ : rf_M) (l1 l2 l3 l4 : Option mV) : W_mark ret (141, [some (.inr (some 39)), l1, l2, l3, l4], [], μ, 0, 0) = W_mark ret (142, [some (.inr (some 39)), l1, l2, l3, l4], [.inr (some 39)], μ, 0, 0) := mm_W_eq rf_hk_mono _
set_option maxRecDepth 8000 in
theorem r_mark_142 (ret : Option mV → rf_M → Prop) (μ : rf_M) (ls : List (Option mV)) : W_mark ret (142, ls, [.inr (some 39)], μ, 0, 0) = W_mark ret (145, ls, [.inr (some 22)], μ, 0, 0) := mm_W_eq rf_hk_mono _
set_option maxRecDepth 8000 in
theorem r_mark_145 (ret : Option mV → rf_M → Prop) (μ : rf_M) (y : Int32) (l0 l1 l2 l4 : Option mV) : W_mark ret (145, [l0, l1, l2, some (.inl y), l4], [.inr (some 22)], μ, 0, 0) = W_mark ret (146, [l0, l1, l2, some (.inl y), l4], [.inl y, .inr (some 22)], μ, 0, 0) := mm_W_eq rf_hk_mono _
set_option maxRecDepth 8000 in
theorem r_mark_146 (ret : Option mV → rf_M → Prop) (μ : rf_M) (x0 : Int32) (l1 l2 l3 l4 : Option mV) : W_mark ret (146, [some (.inr (some 39)), l1, l2, l3, l4], [.inl x0, .inr (some 22)], μ, 0, 0) = W_mark ret (147, [some (.inr (some 39)), l1, l2, l3, l4], [.inr (some 39), .inl x0, .inr (some 22)], μ, 0, 0) := mm_W_eq rf_hk_mono _
set_option maxRecDepth 8000 in
theorem r_mark_147 (ret : Option mV → rf_M → Prop) (μ : rf_M) (x1 : Int32) (ls : List (Option mV)) : W_mark ret (147, ls, [.inr (some 39), .inl x1, .inr (some 22)], μ, 0, 0) = W_mark ret (150, ls, [.inr (some 2), .inl x1, .inr (some 22)], μ, 0, 0) := mm_W_eq rf_hk_mono _
set_option maxRecDepth 8000 in
theorem r_mark_150 (ret : Option mV → rf_M → Prop) (μ : rf_M) (x1 y : Int32) (l0 l1 l2 l3 : Option mV) : W_mark ret (150, [l0, l1, l2, l3, some (.inl y)], [.inr (some 2), .inl x1, .inr (some 22)], μ, 0, 0) = W_mark ret (152, [l0, l1, l2, l3, some (.inl y)], [.inl y, .inr (some 2), .inl x1, .inr (some 22)], μ, 0, 0) := mm_W_eq rf_hk_mono _
set_option maxRecDepth 8000 in
theorem r_mark_152 (ret : Option mV → rf_M → Prop) (μ : rf_M) (x0 x2 : Int32) (ls : List (Option mV)) : W_mark ret (152, ls, [.inl x0, .inr (some 2), .inl x2, .inr (some 22)], μ, 0, 0) = (vp_in x0 20480 ∧ W_mark ret (153, ls, [.inl (μ.2 2 x0.toNatClampNeg), .inl x2, .inr (some 22)], μ, 0, 0)) := mm_W_eq rf_hk_mono _
set_option maxRecDepth 8000 in
theorem r_mark_153 (ret : Option mV → rf_M → Prop) (μ : rf_M) (x0 x1 : Int32) (ls : List (Option mV)) : W_mark ret (153, ls, [.inl x0, .inl x1, .inr (some 22)], μ, 0, 0) = (vp_in x1 20480 ∧ W_mark ret (154, ls, [], (μ.1, rf_up μ.2 22 x1.toNatClampNeg x0), 0, 0)) := mm_W_eq rf_hk_mono _
set_option maxRecDepth 8000 in
theorem r_mark_154 (ret : Option mV → rf_M → Prop) (μ : rf_M) (y : Int32) (l0 l1 l2 l4 : Option mV) : W_mark ret (154, [l0, l1, l2, some (.inl y), l4], [], μ, 0, 0) = W_mark ret (157, [l0, l1, l2, some (.inl (y + nI 1)), l4], [], μ, 0, 0) := mm_W_eq rf_hk_mono _
set_option maxRecDepth 8000 in
theorem r_mark_157 (ret : Option mV → rf_M → Prop) (μ : rf_M) (ls : List (Option mV)) : W_mark ret (157, ls, [], μ, 0, 0) = W_mark ret (29, ls, [], μ, 0, 0) := mm_W_eq rf_hk_mono _
set_option maxRecDepth 8000 in
theorem r_mark_160 (ret : Option mV → rf_M → Prop) (μ : rf_M) (y : Int32) (l0 l1 l3 l4 : Option mV) : W_mark ret (160, [l0, l1, some (.inl y), l3, l4], [], μ, 0, 0) = W_mark ret (161, [l0, l1, some (.inl y), l3, l4], [.inl y], μ, 0, 0) := mm_W_eq rf_hk_mono _
set_option maxRecDepth 8000 in
theorem r_mark_161 (ret : Option mV → rf_M → Prop) (μ : rf_M) (x0 : Int32) (ls : List (Option mV)) : W_mark ret (161, ls, [.inl x0], μ, 0, 0) = ret (some (.inl x0)) μ := mm_W_eq rf_hk_mono _
theorem e_mark (a0 : Int32) (μ : rf_M) (ret : Option mV → rf_M → Prop) (h : W_mark ret (0, [some (.inr (some 39)), some (.inl a0), none, none, none], [], μ, 0, 0)) : P_mark [.inr (some 39), .inl a0] μ 0 0 ret := ⟨rfl, Nat.le_of_ble_eq_true rfl, h⟩
theorem so_mark (l : Launch) (D : va_G) (cs sa ad : Nat → Nat) (A : Nat → Prop) : mm_So l (rf_W D cs ad A) (kk D cs sa A) ad A yX7_mark cX7_mark 5 (some .int) 0 P_mark := rf_So (rf_sound (by decide) (by decide +kernel) rfl (fun p e mc ms s0 m args below meth c F hK hA => fun _ h => absurd h List.not_mem_nil))
/-! moveUp -/
def cd_moveUp : mC := [(0, .iconst 0, 1), (1, .istore_n 1, 1), (2, .iconst 0, 1), (3, .istore_n 2, 1), (4, .iload_n 2, 1), (5, .aload_n 0, 1), (6, .getfield 111, 3), (9, .if_icmp .ge 104, 3), (12, .aload_n 0, 1), (13, .getfield 31, 3), (16, .iload_n 2, 1), (17, .iaload, 1), (18, .istore_n 3, 1), (19, .aload_n 0, 1), (20, .getfield 31, 3), (23, .iload_n 2, 1), (24, .iconst 1, 1), (25, .iadd, 1), (26, .iaload, 1), (27, .istore 4, 2), (29, .aload_n 0, 1), (30, .getfield 7, 3), (33, .iload_n 3, 1), (34, .iaload, 1), (35, .iconst 1, 1), (36, .if_icmp .ne 67, 3), (39, .aload_n 0, 1), (40, .getfield 13, 3), (43, .iload_n 3, 1), (44, .iaload, 1), (45, .iload_n 2, 1), (46, .iconst 2, 1), (47, .iadd, 1), (48, .if_icmp .ne 55, 3), (51, .iconst 0, 1), (52, .istore 5, 2), (54, .iload 5, 2), (56, .iload 4, 2), (58, .iconst 2, 1), (59, .iadd, 1), (60, .if_icmp .ge 27, 3), (63, .aload_n 0, 1), (64, .getfield 31, 3), (67, .iload_n 1, 1), (68, .iload 5, 2), (70, .iadd, 1), (71, .aload_n 0, 1), (72, .getfield 31, 3), (75, .iload_n 2, 1), (76, .iload 5, 2), (78, .iadd, 1), (79, .iaload, 1), (80, .iastore, 1), (81, .iinc 5 1, 3), (84, .goto (-30), 3), (87, .aload_n 0, 1), (88, .getfield 13, 3), (91, .iload_n 3, 1), (92, .iload_n 1, 1), (93, .iconst 2, 1), (94, .iadd, 1), (95, .iastore, 1), (96, .iload_n 1, 1), (97, .iload 4, 2), (99, .iconst 2, 1), (100, .iadd, 1), (101, .iadd, 1), (102, .istore_n 1, 1), (103, .iload_n 2, 1), (104, .iload 4, 2), (106, .iconst 2, 1), (107, .iadd, 1), (108, .iadd, 1), (109, .istore_n 2, 1), (110, .goto (-106), 3), (113, .aload_n 0, 1), (114, .iload_n 1, 1), (115, .putfield 111, 3), (118, .return_, 1)]
def sp_moveUp : mQ rf_M := []
def W_moveUp (ret : Option mV → rf_M → Prop) : mX rf_M → Prop := mm_W 0 cd_moveUp rf_hk sp_moveUp ret
def P_moveUp : mP rf_M := rf_P (mm_Pm 0 cd_moveUp rf_hk sp_moveUp 6)
theorem r_moveUp_0 (ret : Option mV → rf_M → Prop) (μ : rf_M) (ls : List (Option mV)) : W_moveUp ret (0, ls, [], μ, 0, 0) = W_moveUp ret (1, ls, [.inl (nI 0)], μ, 0, 0) := mm_W_eq rf_hk_mono _
theorem r_moveUp_1 (ret : Option mV → rf_M → Prop) (μ : rf_M) (x0 : Int32) (l0 l1 l2 l3 l4 l5 : Option mV) : W_moveUp ret (1, [l0, l1, l2, l3, l4, l5], [.inl x0], μ, 0, 0) = W_moveUp ret (2, [l0, some (.inl x0), l2, l3, l4, l5], [], μ, 0, 0) := mm_W_eq rf_hk_mono _
theorem r_moveUp_2 (ret : Option mV → rf_M → Prop) (μ : rf_M) (ls : List (Option mV)) : W_moveUp ret (2, ls, [], μ, 0, 0) = W_moveUp ret (3, ls, [.inl (nI 0)], μ, 0, 0) := mm_W_eq rf_hk_mono _
theorem r_moveUp_3 (ret : Option mV → rf_M → Prop) (μ : rf_M) (x0 : Int32) (l0 l1 l2 l3 l4 l5 : Option mV) : W_moveUp ret (3, [l0, l1, l2, l3, l4, l5], [.inl x0], μ, 0, 0) = W_moveUp ret (4, [l0, l1, some (.inl x0), l3, l4, l5], [], μ, 0, 0) := mm_W_eq rf_hk_mono _
theorem r_moveUp_4 (ret : Option mV → rf_M → Prop) (μ : rf_M) (y : Int32) (l0 l1 l3 l4 l5 : Option mV) : W_moveUp ret (4, [l0, l1, some (.inl y), l3, l4, l5], [], μ, 0, 0) = W_moveUp ret (5, [l0, l1, some (.inl y), l3, l4, l5], [.inl y], μ, 0, 0) := mm_W_eq rf_hk_mono _
theorem r_moveUp_5 (ret : Option mV → rf_M → Prop) (μ : rf_M) (x0 : Int32) (l1 l2 l3 l4 l5 : Option mV) : W_moveUp ret (5, [some (.inr (some 39)), l1, l2, l3, l4, l5], [.inl x0], μ, 0, 0) = W_moveUp ret (6, [some (.inr (some 39)), l1, l2, l3, l4, l5], [.inr (some 39), .inl x0], μ, 0, 0) := mm_W_eq rf_hk_mono _
theorem r_moveUp_6 (ret : Option mV → rf_M → Prop) (μ : rf_M) (x1 : Int32) (ls : List (Option mV)) : W_moveUp ret (6, ls, [.inr (some 39), .inl x1], μ, 0, 0) = W_moveUp ret (9, ls, [.inl (μ.1 8), .inl x1], μ, 0, 0) := mm_W_eq rf_hk_mono _
theorem r_moveUp_9 (ret : Option mV → rf_M → Prop) (μ : rf_M) (x0 x1 : Int32) (ls : List (Option mV)) : W_moveUp ret (9, ls, [.inl x0, .inl x1], μ, 0, 0) = ((x0 ≤ x1 → W_moveUp ret (113, ls, [], μ, 0, 0)) ∧ (¬ x0 ≤ x1 → W_moveUp ret (12, ls, [], μ, 0, 0))) := mm_W_eq rf_hk_mono _
theorem r_moveUp_12 (ret : Option mV → rf_M → Prop) (μ : rf_M) (l1 l2 l3 l4 l5 : Option mV) : W_moveUp ret (12, [some (.inr (some 39)), l1, l2, l3, l4, l5], [], μ, 0, 0) = W_moveUp ret (13, [some (.inr (some 39)), l1, l2, l3, l4, l5], [.inr (some 39)], μ, 0, 0) := mm_W_eq rf_hk_mono _
theorem r_moveUp_13 (ret : Option mV → rf_M → Prop) (μ : rf_M) (ls : List (Option mV)) : W_moveUp ret (13, ls, [.inr (some 39)], μ, 0, 0) = W_moveUp ret (16, ls, [.inr (some 7)], μ, 0, 0) := mm_W_eq rf_hk_mono _
theorem r_moveUp_16 (ret : Option mV → rf_M → Prop) (μ : rf_M) (y : Int32) (l0 l1 l3 l4 l5 : Option mV) : W_moveUp ret (16, [l0, l1, some (.inl y), l3, l4, l5], [.inr (some 7)], μ, 0, 0) = W_moveUp ret (17, [l0, l1, some (.inl y), l3, l4, l5], [.inl y, .inr (some 7)], μ, 0, 0) := mm_W_eq rf_hk_mono _
theorem r_moveUp_17 (ret : Option mV → rf_M → Prop) (μ : rf_M) (x0 : Int32) (ls : List (Option mV)) : W_moveUp ret (17, ls, [.inl x0, .inr (some 7)], μ, 0, 0) = (vp_in x0 81920 ∧ W_moveUp ret (18, ls, [.inl (μ.2 7 x0.toNatClampNeg)], μ, 0, 0)) := mm_W_eq rf_hk_mono _
theorem r_moveUp_18 (ret : Option mV → rf_M → Prop) (μ : rf_M) (x0 : Int32) (l0 l1 l2 l3 l4 l5 : Option mV) : W_moveUp ret (18, [l0, l1, l2, l3, l4, l5], [.inl x0], μ, 0, 0) = W_moveUp ret (19, [l0, l1, l2, some (.inl x0), l4, l5], [], μ, 0, 0) := mm_W_eq rf_hk_mono _
theorem r_moveUp_19 (ret : Option mV → rf_M → Prop) (μ : rf_M) (l1 l2 l3 l4 l5 : Option mV) : W_moveUp ret (19, [some (.inr (some 39)), l1, l2, l3, l4, l5], [], μ, 0, 0) = W_moveUp ret (20, [some (.inr (some 39)), l1, l2, l3, l4, l5], [.inr (some 39)], μ, 0, 0) := mm_W_eq rf_hk_mono _
theorem r_moveUp_20 (ret : Option mV → rf_M → Prop) (μ : rf_M) (ls : List (Option mV)) : W_moveUp ret (20, ls, [.inr (some 39)], μ, 0, 0) = W_moveUp ret (23, ls, [.inr (some 7)], μ, 0, 0) := mm_W_eq rf_hk_mono _
theorem r_moveUp_23 (ret : Option mV → rf_M → Prop) (μ : rf_M) (y : Int32) (l0 l1 l3 l4 l5 : Option mV) : W_moveUp ret (23, [l0, l1, some (.inl y), l3, l4, l5], [.inr (some 7)], μ, 0, 0) = W_moveUp ret (24, [l0, l1, some (.inl y), l3, l4, l5], [.inl y, .inr (some 7)], μ, 0, 0) := mm_W_eq rf_hk_mono _
theorem r_moveUp_24 (ret : Option mV → rf_M → Prop) (μ : rf_M) (x0 : Int32) (ls : List (Option mV)) : W_moveUp ret (24, ls, [.inl x0, .inr (some 7)], μ, 0, 0) = W_moveUp ret (25, ls, [.inl (nI 1), .inl x0, .inr (some 7)], μ, 0, 0) := mm_W_eq rf_hk_mono _
theorem r_moveUp_25 (ret : Option mV → rf_M → Prop) (μ : rf_M) (x0 x1 : Int32) (ls : List (Option mV)) : W_moveUp ret (25, ls, [.inl x0, .inl x1, .inr (some 7)], μ, 0, 0) = W_moveUp ret (26, ls, [.inl (x1 + x0), .inr (some 7)], μ, 0, 0) := mm_W_eq rf_hk_mono _
theorem r_moveUp_26 (ret : Option mV → rf_M → Prop) (μ : rf_M) (x0 : Int32) (ls : List (Option mV)) : W_moveUp ret (26, ls, [.inl x0, .inr (some 7)], μ, 0, 0) = (vp_in x0 81920 ∧ W_moveUp ret (27, ls, [.inl (μ.2 7 x0.toNatClampNeg)], μ, 0, 0)) := mm_W_eq rf_hk_mono _
theorem r_moveUp_27 (ret : Option mV → rf_M → Prop) (μ : rf_M) (x0 : Int32) (l0 l1 l2 l3 l4 l5 : Option mV) : W_moveUp ret (27, [l0, l1, l2, l3, l4, l5], [.inl x0], μ, 0, 0) = W_moveUp ret (29, [l0, l1, l2, l3, some (.inl x0), l5], [], μ, 0, 0) := mm_W_eq rf_hk_mono _
theorem r_moveUp_29 (ret : Option mV → rf_M → Prop) (μ : rf_M) (l1 l2 l3 l4 l5 : Option mV) : W_moveUp ret (29, [some (.inr (some 39)), l1, l2, l3, l4, l5], [], μ, 0, 0) = W_moveUp ret (30, [some (.inr (some 39)), l1, l2, l3, l4, l5], [.inr (some 39)], μ, 0, 0) := mm_W_eq rf_hk_mono _
theorem r_moveUp_30 (ret : Option mV → rf_M → Prop) (μ : rf_M) (ls : List (Option mV)) : W_moveUp ret (30, ls, [.inr (some 39)], μ, 0, 0) = W_moveUp ret (33, ls, [.inr (some 0)], μ, 0, 0) := mm_W_eq rf_hk_mono _
theorem r_moveUp_33 (ret : Option mV → rf_M → Prop) (μ : rf_M) (y : Int32) (l0 l1 l2 l4 l5 : Option mV) : W_moveUp ret (33, [l0, l1, l2, some (.inl y), l4, l5], [.inr (some 0)], μ, 0, 0) = W_moveUp ret (34, [l0, l1, l2, some (.inl y), l4, l5], [.inl y, .inr (some 0)], μ, 0, 0) := mm_W_eq rf_hk_mono _
theorem r_moveUp_34 (ret : Option mV → rf_M → Prop) (μ : rf_M) (x0 : Int32) (ls : List (Option mV)) : W_moveUp ret (34, ls, [.inl x0, .inr (some 0)], μ, 0, 0) = (vp_in x0 20480 ∧ W_moveUp ret (35, ls, [.inl (μ.2 0 x0.toNatClampNeg)], μ, 0, 0)) := mm_W_eq rf_hk_mono _
theorem r_moveUp_35 (ret : Option mV → rf_M → Prop) (μ : rf_M) (x0 : Int32) (ls : List (Option mV)) : W_moveUp ret (35, ls, [.inl x0], μ, 0, 0) = W_moveUp ret (36, ls, [.inl (nI 1), .inl x0], μ, 0, 0) := mm_W_eq rf_hk_mono _
theorem r_moveUp_36 (ret : Option mV → rf_M → Prop) (μ : rf_M) (x0 x1 : Int32) (ls : List (Option mV)) : W_moveUp ret (36, ls, [.inl x0, .inl x1], μ, 0, 0) = ((¬ x1 = x0 → W_moveUp ret (103, ls, [], μ, 0, 0)) ∧ (¬ (¬ x1 = x0) → W_moveUp ret (39, ls, [], μ, 0, 0))) := mm_W_eq rf_hk_mono _
theorem r_moveUp_39 (ret : Option mV → rf_M → Prop) (μ : rf_M) (l1 l2 l3 l4 l5 : Option mV) : W_moveUp ret (39, [some (.inr (some 39)), l1, l2, l3, l4, l5], [], μ, 0, 0) = W_moveUp ret (40, [some (.inr (some 39)), l1, l2, l3, l4, l5], [.inr (some 39)], μ, 0, 0) := mm_W_eq rf_hk_mono _
theorem r_moveUp_40 (ret : Option mV → rf_M → Prop) (μ : rf_M) (ls : List (Option mV)) : W_moveUp ret (40, ls, [.inr (some 39)], μ, 0, 0) = W_moveUp ret (43, ls, [.inr (some 1)], μ, 0, 0) := mm_W_eq rf_hk_mono _
theorem r_moveUp_43 (ret : Option mV → rf_M → Prop) (μ : rf_M) (y : Int32) (l0 l1 l2 l4 l5 : Option mV) : W_moveUp ret (43, [l0, l1, l2, some (.inl y), l4, l5], [.inr (some 1)], μ, 0, 0) = W_moveUp ret (44, [l0, l1, l2, some (.inl y), l4, l5], [.inl y, .inr (some 1)], μ, 0, 0) := mm_W_eq rf_hk_mono _
theorem r_moveUp_44 (ret : Option mV → rf_M → Prop) (μ : rf_M) (x0 : Int32) (ls : List (Option mV)) : W_moveUp ret (44, ls, [.inl x0, .inr (some 1)], μ, 0, 0) = (vp_in x0 20480 ∧ W_moveUp ret (45, ls, [.inl (μ.2 1 x0.toNatClampNeg)], μ, 0, 0)) := mm_W_eq rf_hk_mono _
theorem r_moveUp_45 (ret : Option mV → rf_M → Prop) (μ : rf_M) (x0 y : Int32) (l0 l1 l3 l4 l5 : Option mV) : W_moveUp ret (45, [l0, l1, some (.inl y), l3, l4, l5], [.inl x0], μ, 0, 0) = W_moveUp ret (46, [l0, l1, some (.inl y), l3, l4, l5], [.inl y, .inl x0], μ, 0, 0) := mm_W_eq rf_hk_mono _
theorem r_moveUp_46 (ret : Option mV → rf_M → Prop) (μ : rf_M) (x0 x1 : Int32) (ls : List (Option mV)) : W_moveUp ret (46, ls, [.inl x0, .inl x1], μ, 0, 0) = W_moveUp ret (47, ls, [.inl (nI 2), .inl x0, .inl x1], μ, 0, 0) := mm_W_eq rf_hk_mono _
theorem r_moveUp_47 (ret : Option mV → rf_M → Prop) (μ : rf_M) (x0 x1 x2 : Int32) (ls : List (Option mV)) : W_moveUp ret (47, ls, [.inl x0, .inl x1, .inl x2], μ, 0, 0) = W_moveUp ret (48, ls, [.inl (x1 + x0), .inl x2], μ, 0, 0) := mm_W_eq rf_hk_mono _
theorem r_moveUp_48 (ret : Option mV → rf_M → Prop) (μ : rf_M) (x0 x1 : Int32) (ls : List (Option mV)) : W_moveUp ret (48, ls, [.inl x0, .inl x1], μ, 0, 0) = ((¬ x1 = x0 → W_moveUp ret (103, ls, [], μ, 0, 0)) ∧ (¬ (¬ x1 = x0) → W_moveUp ret (51, ls, [], μ, 0, 0))) := mm_W_eq rf_hk_mono _
theorem r_moveUp_51 (ret : Option mV → rf_M → Prop) (μ : rf_M) (ls : List (Option mV)) : W_moveUp ret (51, ls, [], μ, 0, 0) = W_moveUp ret (52, ls, [.inl (nI 0)], μ, 0, 0) := mm_W_eq rf_hk_mono _
theorem r_moveUp_52 (ret : Option mV → rf_M → Prop) (μ : rf_M) (x0 : Int32) (l0 l1 l2 l3 l4 l5 : Option mV) : W_moveUp ret (52, [l0, l1, l2, l3, l4, l5], [.inl x0], μ, 0, 0) = W_moveUp ret (54, [l0, l1, l2, l3, l4, some (.inl x0)], [], μ, 0, 0) := mm_W_eq rf_hk_mono _
theorem r_moveUp_54 (ret : Option mV → rf_M → Prop) (μ : rf_M) (y : Int32) (l0 l1 l2 l3 l4 : Option mV) : W_moveUp ret (54, [l0, l1, l2, l3, l4, some (.inl y)], [], μ, 0, 0) = W_moveUp ret (56, [l0, l1, l2, l3, l4, some (.inl y)], [.inl y], μ, 0, 0) := mm_W_eq rf_hk_mono _
theorem r_moveUp_56 (ret : Option mV → rf_M → Prop) (μ : rf_M) (x0 y : Int32) (l0 l1 l2 l3 l5 : Option mV) : W_moveUp ret (56, [l0, l1, l2, l3, some (.inl y), l5], [.inl x0], μ, 0, 0) = W_moveUp ret (58, [l0, l1, l2, l3, some (.inl y), l5], [.inl y, .inl x0], μ, 0, 0) := mm_W_eq rf_hk_mono _
theorem r_moveUp_58 (ret : Option mV → rf_M → Prop) (μ : rf_M) (x0 x1 : Int32) (ls : List (Option mV)) : W_moveUp ret (58, ls, [.inl x0, .inl x1], μ, 0, 0) = W_moveUp ret (59, ls, [.inl (nI 2), .inl x0, .inl x1], μ, 0, 0) := mm_W_eq rf_hk_mono _
theorem r_moveUp_59 (ret : Option mV → rf_M → Prop) (μ : rf_M) (x0 x1 x2 : Int32) (ls : List (Option mV)) : W_moveUp ret (59, ls, [.inl x0, .inl x1, .inl x2], μ, 0, 0) = W_moveUp ret (60, ls, [.inl (x1 + x0), .inl x2], μ, 0, 0) := mm_W_eq rf_hk_mono _
theorem r_moveUp_60 (ret : Option mV → rf_M → Prop) (μ : rf_M) (x0 x1 : Int32) (ls : List (Option mV)) : W_moveUp ret (60, ls, [.inl x0, .inl x1], μ, 0, 0) = ((x0 ≤ x1 → W_moveUp ret (87, ls, [], μ, 0, 0)) ∧ (¬ x0 ≤ x1 → W_moveUp ret (63, ls, [], μ, 0, 0))) := mm_W_eq rf_hk_mono _
set_option maxRecDepth 8000 in
theorem r_moveUp_63 (ret : Option mV → rf_M → Prop) (μ : rf_M) (l1 l2 l3 l4 l5 : Option mV) : W_moveUp ret (63, [some (.inr (some 39)), l1, l2, l3, l4, l5], [], μ, 0, 0) = W_moveUp ret (64, [some (.inr (some 39)), l1, l2, l3, l4, l5], [.inr (some 39)], μ, 0, 0) := mm_W_eq rf_hk_mono _
set_option maxRecDepth 8000 in
theorem r_moveUp_64 (ret : Option mV → rf_M → Prop) (μ : rf_M) (ls : List (Option mV)) : W_moveUp ret (64, ls, [.inr (some 39)], μ, 0, 0) = W_moveUp ret (67, ls, [.inr (some 7)], μ, 0, 0) := mm_W_eq rf_hk_mono _
set_option maxRecDepth 8000 in
theorem r_moveUp_67 (ret : Option mV → rf_M → Prop) (μ : rf_M) (y : Int32) (l0 l2 l3 l4 l5 : Option mV) : W_moveUp ret (67, [l0, some (.inl y), l2, l3, l4, l5], [.inr (some 7)], μ, 0, 0) = W_moveUp ret (68, [l0, some (.inl y), l2, l3, l4, l5], [.inl y, .inr (some 7)], μ, 0, 0) := mm_W_eq rf_hk_mono _
set_option maxRecDepth 8000 in
theorem r_moveUp_68 (ret : Option mV → rf_M → Prop) (μ : rf_M) (x0 y : Int32) (l0 l1 l2 l3 l4 : Option mV) : W_moveUp ret (68, [l0, l1, l2, l3, l4, some (.inl y)], [.inl x0, .inr (some 7)], μ, 0, 0) = W_moveUp ret (70, [l0, l1, l2, l3, l4, some (.inl y)], [.inl y, .inl x0, .inr (some 7)], μ, 0, 0) := mm_W_eq rf_hk_mono _
set_option maxRecDepth 8000 in
theorem r_moveUp_70 (ret : Option mV → rf_M → Prop) (μ : rf_M) (x0 x1 : Int32) (ls : List (Option mV)) : W_moveUp ret (70, ls, [.inl x0, .inl x1, .inr (some 7)], μ, 0, 0) = W_moveUp ret (71, ls, [.inl (x1 + x0), .inr (some 7)], μ, 0, 0) := mm_W_eq rf_hk_mono _
set_option maxRecDepth 8000 in
theorem r_moveUp_71 (ret : Option mV → rf_M → Prop) (μ : rf_M) (x0 : Int32) (l1 l2 l3 l4 l5 : Option mV) : W_moveUp ret (71, [some (.inr (some 39)), l1, l2, l3, l4, l5], [.inl x0, .inr (some 7)], μ, 0, 0) = W_moveUp ret (72, [some (.inr (some 39)), l1, l2, l3, l4, l5], [.inr (some 39), .inl x0, .inr (some 7)], μ, 0, 0) := mm_W_eq rf_hk_mono _
set_option maxRecDepth 8000 in
theorem r_moveUp_72 (ret : Option mV → rf_M → Prop) (μ : rf_M) (x1 : Int32) (ls : List (Option mV)) : W_moveUp ret (72, ls, [.inr (some 39), .inl x1, .inr (some 7)], μ, 0, 0) = W_moveUp ret (75, ls, [.inr (some 7), .inl x1, .inr (some 7)], μ, 0, 0) := mm_W_eq rf_hk_mono _
set_option maxRecDepth 8000 in
theorem r_moveUp_75 (ret : Option mV → rf_M → Prop) (μ : rf_M) (x1 y : Int32) (l0 l1 l3 l4 l5 : Option mV) : W_moveUp ret (75, [l0, l1, some (.inl y), l3, l4, l5], [.inr (some 7), .inl x1, .inr (some 7)], μ, 0, 0) = W_moveUp ret (76, [l0, l1, some (.inl y), l3, l4, l5], [.inl y, .inr (some 7), .inl x1, .inr (some 7)], μ, 0, 0) := mm_W_eq rf_hk_mono _
set_option maxRecDepth 8000 in
theorem r_moveUp_76 (ret : Option mV → rf_M → Prop) (μ : rf_M) (x0 x2 y : Int32) (l0 l1 l2 l3 l4 : Option mV) : W_moveUp ret (76, [l0, l1, l2, l3, l4, some (.inl y)], [.inl x0, .inr (some 7), .inl x2, .inr (some 7)], μ, 0, 0) = W_moveUp ret (78, [l0, l1, l2, l3, l4, some (.inl y)], [.inl y, .inl x0, .inr (some 7), .inl x2, .inr (some 7)], μ, 0, 0) := mm_W_eq rf_hk_mono _
set_option maxRecDepth 8000 in
theorem r_moveUp_78 (ret : Option mV → rf_M → Prop) (μ : rf_M) (x0 x1 x3 : Int32) (ls : List (Option mV)) : W_moveUp ret (78, ls, [.inl x0, .inl x1, .inr (some 7), .inl x3, .inr (some 7)], μ, 0, 0) = W_moveUp ret (79, ls, [.inl (x1 + x0), .inr (some 7), .inl x3, .inr (some 7)], μ, 0, 0) := mm_W_eq rf_hk_mono _
set_option maxRecDepth 8000 in
theorem r_moveUp_79 (ret : Option mV → rf_M → Prop) (μ : rf_M) (x0 x2 : Int32) (ls : List (Option mV)) : W_moveUp ret (79, ls, [.inl x0, .inr (some 7), .inl x2, .inr (some 7)], μ, 0, 0) = (vp_in x0 81920 ∧ W_moveUp ret (80, ls, [.inl (μ.2 7 x0.toNatClampNeg), .inl x2, .inr (some 7)], μ, 0, 0)) := mm_W_eq rf_hk_mono _
set_option maxRecDepth 8000 in
theorem r_moveUp_80 (ret : Option mV → rf_M → Prop) (μ : rf_M) (x0 x1 : Int32) (ls : List (Option mV)) : W_moveUp ret (80, ls, [.inl x0, .inl x1, .inr (some 7)], μ, 0, 0) = (vp_in x1 81920 ∧ W_moveUp ret (81, ls, [], (μ.1, rf_up μ.2 7 x1.toNatClampNeg x0), 0, 0)) := mm_W_eq rf_hk_mono _
set_option maxRecDepth 8000 in
theorem r_moveUp_81 (ret : Option mV → rf_M → Prop) (μ : rf_M) (y : Int32) (l0 l1 l2 l3 l4 : Option mV) : W_moveUp ret (81, [l0, l1, l2, l3, l4, some (.inl y)], [], μ, 0, 0) = W_moveUp ret (84, [l0, l1, l2, l3, l4, some (.inl (y + nI 1))], [], μ, 0, 0) := mm_W_eq rf_hk_mono _
set_option maxRecDepth 8000 in
theorem r_moveUp_84 (ret : Option mV → rf_M → Prop) (μ : rf_M) (ls : List (Option mV)) : W_moveUp ret (84, ls, [], μ, 0, 0) = W_moveUp ret (54, ls, [], μ, 0, 0) := mm_W_eq rf_hk_mono _
set_option maxRecDepth 8000 in
theorem r_moveUp_87 (ret : Option mV → rf_M → Prop) (μ : rf_M) (l1 l2 l3 l4 l5 : Option mV) : W_moveUp ret (87, [some (.inr (some 39)), l1, l2, l3, l4, l5], [], μ, 0, 0) = W_moveUp ret (88, [some (.inr (some 39)), l1, l2, l3, l4, l5], [.inr (some 39)], μ, 0, 0) := mm_W_eq rf_hk_mono _
set_option maxRecDepth 8000 in
theorem r_moveUp_88 (ret : Option mV → rf_M → Prop) (μ : rf_M) (ls : List (Option mV)) : W_moveUp ret (88, ls, [.inr (some 39)], μ, 0, 0) = W_moveUp ret (91, ls, [.inr (some 1)], μ, 0, 0) := mm_W_eq rf_hk_mono _
set_option maxRecDepth 8000 in
theorem r_moveUp_91 (ret : Option mV → rf_M → Prop) (μ : rf_M) (y : Int32) (l0 l1 l2 l4 l5 : Option mV) : W_moveUp ret (91, [l0, l1, l2, some (.inl y), l4, l5], [.inr (some 1)], μ, 0, 0) = W_moveUp ret (92, [l0, l1, l2, some (.inl y), l4, l5], [.inl y, .inr (some 1)], μ, 0, 0) := mm_W_eq rf_hk_mono _
set_option maxRecDepth 8000 in
theorem r_moveUp_92 (ret : Option mV → rf_M → Prop) (μ : rf_M) (x0 y : Int32) (l0 l2 l3 l4 l5 : Option mV) : W_moveUp ret (92, [l0, some (.inl y), l2, l3, l4, l5], [.inl x0, .inr (some 1)], μ, 0, 0) = W_moveUp ret (93, [l0, some (.inl y), l2, l3, l4, l5], [.inl y, .inl x0, .inr (some 1)], μ, 0, 0) := mm_W_eq rf_hk_mono _
set_option maxRecDepth 8000 in
theorem r_moveUp_93 (ret : Option mV → rf_M → Prop) (μ : rf_M) (x0 x1 : Int32) (ls : List (Option mV)) : W_moveUp ret (93, ls, [.inl x0, .inl x1, .inr (some 1)], μ, 0, 0) = W_moveUp ret (94, ls, [.inl (nI 2), .inl x0, .inl x1, .inr (some 1)], μ, 0, 0) := mm_W_eq rf_hk_mono _
set_option maxRecDepth 8000 in
theorem r_moveUp_94 (ret : Option mV → rf_M → Prop) (μ : rf_M) (x0 x1 x2 : Int32) (ls : List (Option mV)) : W_moveUp ret (94, ls, [.inl x0, .inl x1, .inl x2, .inr (some 1)], μ, 0, 0) = W_moveUp ret (95, ls, [.inl (x1 + x0), .inl x2, .inr (some 1)], μ, 0, 0) := mm_W_eq rf_hk_mono _
set_option maxRecDepth 8000 in
theorem r_moveUp_95 (ret : Option mV → rf_M → Prop) (μ : rf_M) (x0 x1 : Int32) (ls : List (Option mV)) : W_moveUp ret (95, ls, [.inl x0, .inl x1, .inr (some 1)], μ, 0, 0) = (vp_in x1 20480 ∧ W_moveUp ret (96, ls, [], (μ.1, rf_up μ.2 1 x1.toNatClampNeg x0), 0, 0)) := mm_W_eq rf_hk_mono _
set_option maxRecDepth 8000 in
theorem r_moveUp_96 (ret : Option mV → rf_M → Prop) (μ : rf_M) (y : Int32) (l0 l2 l3 l4 l5 : Option mV) : W_moveUp ret (96, [l0, some (.inl y), l2, l3, l4, l5], [], μ, 0, 0) = W_moveUp ret (97, [l0, some (.inl y), l2, l3, l4, l5], [.inl y], μ, 0, 0) := mm_W_eq rf_hk_mono _
set_option maxRecDepth 8000 in
theorem r_moveUp_97 (ret : Option mV → rf_M → Prop) (μ : rf_M) (x0 y : Int32) (l0 l1 l2 l3 l5 : Option mV) : W_moveUp ret (97, [l0, l1, l2, l3, some (.inl y), l5], [.inl x0], μ, 0, 0) = W_moveUp ret (99, [l0, l1, l2, l3, some (.inl y), l5], [.inl y, .inl x0], μ, 0, 0) := mm_W_eq rf_hk_mono _
set_option maxRecDepth 8000 in
theorem r_moveUp_99 (ret : Option mV → rf_M → Prop) (μ : rf_M) (x0 x1 : Int32) (ls : List (Option mV)) : W_moveUp ret (99, ls, [.inl x0, .inl x1], μ, 0, 0) = W_moveUp ret (100, ls, [.inl (nI 2), .inl x0, .inl x1], μ, 0, 0) := mm_W_eq rf_hk_mono _
set_option maxRecDepth 8000 in
theorem r_moveUp_100 (ret : Option mV → rf_M → Prop) (μ : rf_M) (x0 x1 x2 : Int32) (ls : List (Option mV)) : W_moveUp ret (100, ls, [.inl x0, .inl x1, .inl x2], μ, 0, 0) = W_moveUp ret (101, ls, [.inl (x1 + x0), .inl x2], μ, 0, 0) := mm_W_eq rf_hk_mono _
set_option maxRecDepth 8000 in
theorem r_moveUp_101 (ret : Option mV → rf_M → Prop) (μ : rf_M) (x0 x1 : Int32) (ls : List (Option mV)) : W_moveUp ret (101, ls, [.inl x0, .inl x1], μ, 0, 0) = W_moveUp ret (102, ls, [.inl (x1 + x0)], μ, 0, 0) := mm_W_eq rf_hk_mono _
set_option maxRecDepth 8000 in
theorem r_moveUp_102 (ret : Option mV → rf_M → Prop) (μ : rf_M) (x0 : Int32) (l0 l1 l2 l3 l4 l5 : Option mV) : W_moveUp ret (102, [l0, l1, l2, l3, l4, l5], [.inl x0], μ, 0, 0) = W_moveUp ret (103, [l0, some (.inl x0), l2, l3, l4, l5], [], μ, 0, 0) := mm_W_eq rf_hk_mono _
set_option maxRecDepth 8000 in
theorem r_moveUp_103 (ret : Option mV → rf_M → Prop) (μ : rf_M) (y : Int32) (l0 l1 l3 l4 l5 : Option mV) : W_moveUp ret (103, [l0, l1, some (.inl y), l3, l4, l5], [], μ, 0, 0) = W_moveUp ret (104, [l0, l1, some (.inl y), l3, l4, l5], [.inl y], μ, 0, 0) := mm_W_eq rf_hk_mono _
set_option maxRecDepth 8000 in
theorem r_moveUp_104 (ret : Option mV → rf_M → Prop) (μ : rf_M) (x0 y : Int32) (l0 l1 l2 l3 l5 : Option mV) : W_moveUp ret (104, [l0, l1, l2, l3, some (.inl y), l5], [.inl x0], μ, 0, 0) = W_moveUp ret (106, [l0, l1, l2, l3, some (.inl y), l5], [.inl y, .inl x0], μ, 0, 0) := mm_W_eq rf_hk_mono _
set_option maxRecDepth 8000 in
theorem r_moveUp_106 (ret : Option mV → rf_M → Prop) (μ : rf_M) (x0 x1 : Int32) (ls : List (Option mV)) : W_moveUp ret (106, ls, [.inl x0, .inl x1], μ, 0, 0) = W_moveUp ret (107, ls, [.inl (nI 2), .inl x0, .inl x1], μ, 0, 0) := mm_W_eq rf_hk_mono _
set_option maxRecDepth 8000 in
theorem r_moveUp_107 (ret : Option mV → rf_M → Prop) (μ : rf_M) (x0 x1 x2 : Int32) (ls : List (Option mV)) : W_moveUp ret (107, ls, [.inl x0, .inl x1, .inl x2], μ, 0, 0) = W_moveUp ret (108, ls, [.inl (x1 + x0), .inl x2], μ, 0, 0) := mm_W_eq rf_hk_mono _
set_option maxRecDepth 8000 in
theorem r_moveUp_108 (ret : Option mV → rf_M → Prop) (μ : rf_M) (x0 x1 : Int32) (ls : List (Option mV)) : W_moveUp ret (108, ls, [.inl x0, .inl x1], μ, 0, 0) = W_moveUp ret (109, ls, [.inl (x1 + x0)], μ, 0, 0) := mm_W_eq rf_hk_mono _
set_option maxRecDepth 8000 in
theorem r_moveUp_109 (ret : Option mV → rf_M → Prop) (μ : rf_M) (x0 : Int32) (l0 l1 l2 l3 l4 l5 : Option mV) : W_moveUp ret (109, [l0, l1, l2, l3, l4, l5], [.inl x0], μ, 0, 0) = W_moveUp ret (110, [l0, l1, some (.inl x0), l3, l4, l5], [], μ, 0, 0) := mm_W_eq rf_hk_mono _
set_option maxRecDepth 8000 in
theorem r_moveUp_110 (ret : Option mV → rf_M → Prop) (μ : rf_M) (ls : List (Option mV)) : W_moveUp ret (110, ls, [], μ, 0, 0) = W_moveUp ret (4, ls, [], μ, 0, 0) := mm_W_eq rf_hk_mono _
set_option maxRecDepth 8000 in
theorem r_moveUp_113 (ret : Option mV → rf_M → Prop) (μ : rf_M) (l1 l2 l3 l4 l5 : Option mV) : W_moveUp ret (113, [some (.inr (some 39)), l1, l2, l3, l4, l5], [], μ, 0, 0) = W_moveUp ret (114, [some (.inr (some 39)), l1, l2, l3, l4, l5], [.inr (some 39)], μ, 0, 0) := mm_W_eq rf_hk_mono _
set_option maxRecDepth 8000 in
theorem r_moveUp_114 (ret : Option mV → rf_M → Prop) (μ : rf_M) (y : Int32) (l0 l2 l3 l4 l5 : Option mV) : W_moveUp ret (114, [l0, some (.inl y), l2, l3, l4, l5], [.inr (some 39)], μ, 0, 0) = W_moveUp ret (115, [l0, some (.inl y), l2, l3, l4, l5], [.inl y, .inr (some 39)], μ, 0, 0) := mm_W_eq rf_hk_mono _
set_option maxRecDepth 8000 in
theorem r_moveUp_115 (ret : Option mV → rf_M → Prop) (μ : rf_M) (x0 : Int32) (ls : List (Option mV)) : W_moveUp ret (115, ls, [.inl x0, .inr (some 39)], μ, 0, 0) = W_moveUp ret (118, ls, [], (upd μ.1 8 x0, μ.2), 0, 0) := mm_W_eq rf_hk_mono _
set_option maxRecDepth 8000 in
theorem r_moveUp_118 (ret : Option mV → rf_M → Prop) (μ : rf_M) (ls : List (Option mV)) : W_moveUp ret (118, ls, [], μ, 0, 0) = ret none μ := mm_W_eq rf_hk_mono _
theorem e_moveUp (μ : rf_M) (ret : Option mV → rf_M → Prop) (h : W_moveUp ret (0, [some (.inr (some 39)), none, none, none, none, none], [], μ, 0, 0)) : P_moveUp [.inr (some 39)] μ 0 0 ret := ⟨rfl, Nat.le_of_ble_eq_true rfl, h⟩
theorem so_moveUp (l : Launch) (D : va_G) (cs sa ad : Nat → Nat) (A : Nat → Prop) : mm_So l (rf_W D cs ad A) (kk D cs sa A) ad A yX7_moveUp cX7_moveUp 6 none 0 P_moveUp := rf_So (rf_sound (by decide) (by decide +kernel) rfl (fun p e mc ms s0 m args below meth c F hK hA => fun _ h => absurd h List.not_mem_nil))
/-! layPieces -/
def cd_layPieces : mC := [(0, .aload_n 0, 1), (1, .iconst 0, 1), (2, .putfield 135, 3), (5, .iconst 0, 1), (6, .istore_n 2, 1), (7, .iconst 1, 1), (8, .istore_n 3, 1), (9, .aload_n 0, 1), (10, .getfield 70, 3), (13, .iconst 0, 1), (14, .iload_n 1, 1), (15, .iastore, 1), (16, .aload_n 0, 1), (17, .getfield 73, 3), (20, .iconst 0, 1), (21, .iconst 0, 1), (22, .iastore, 1), (23, .iload_n 3, 1), (24, .ifCond .le 126, 3), (27, .iinc 3 (-1), 3), (30, .aload_n 0, 1), (31, .getfield 70, 3), (34, .iload_n 3, 1), (35, .iaload, 1), (36, .istore 4, 2), (38, .aload_n 0, 1), (39, .getfield 73, 3), (42, .iload_n 3, 1), (43, .iaload, 1), (44, .istore 5, 2), (46, .iload 5, 2), (48, .iload_n 2, 1), (49, .if_icmp .le 8, 3), (52, .iload 5, 2), (54, .goto 4, 3), (57, .iload_n 2, 1), (58, .istore_n 2, 1), (59, .aload_n 0, 1), (60, .getfield 7, 3), (63, .iload 4, 2), (65, .iaload, 1), (66, .iconst 2, 1), (67, .if_icmp .ne 59, 3), (70, .aload_n 0, 1), (71, .getfield 70, 3), (74, .iload_n 3, 1), (75, .aload_n 0, 1), (76, .getfield 16, 3), (79, .iload 4, 2), (81, .iaload, 1), (82, .iastore, 1), (83, .aload_n 0, 1), (84, .getfield 73, 3), (87, .iload_n 3, 1), (88, .iload 5, 2), (90, .iconst 1, 1), (91, .iadd, 1), (92, .iastore, 1), (93, .aload_n 0, 1), (94, .getfield 70, 3), (97, .iload_n 3, 1), (98, .iconst 1, 1), (99, .iadd, 1), (100, .aload_n 0, 1), (101, .getfield 13, 3), (104, .iload 4, 2), (106, .iaload, 1), (107, .iastore, 1), (108, .aload_n 0, 1), (109, .getfield 73, 3), (112, .iload_n 3, 1), (113, .iconst 1, 1), (114, .iadd, 1), (115, .iload 5, 2), (117, .iconst 1, 1), (118, .iadd, 1), (119, .iastore, 1), (120, .iinc 3 2, 3), (123, .goto 24, 3), (126, .aload_n 0, 1), (127, .getfield 67, 3), (130, .aload_n 0, 1), (131, .getfield 135, 3), (134, .iload 4, 2), (136, .iastore, 1), (137, .aload_n 0, 1), (138, .dup, 1), (139, .getfield 135, 3), (142, .iconst 1, 1), (143, .iadd, 1), (144, .putfield 135, 3), (147, .goto (-124), 3), (150, .iload_n 2, 1), (151, .ireturn, 1)]
def sp_layPieces : mQ rf_M := []
def W_layPieces (ret : Option mV → rf_M → Prop) : mX rf_M → Prop := mm_W 1 cd_layPieces rf_hk sp_layPieces ret
def P_layPieces : mP rf_M := rf_P (mm_Pm 1 cd_layPieces rf_hk sp_layPieces 6)
theorem r_layPieces_0 (ret : Option mV → rf_M → Prop) (μ : rf_M) (l1 l2 l3 l4 l5 : Option mV) : W_layPieces ret (0, [some (.inr (some 39)), l1, l2, l3, l4, l5], [], μ, 0, 0) = W_layPieces ret (1, [some (.inr (some 39)), l1, l2, l3, l4, l5], [.inr (some 39)], μ, 0, 0) := mm_W_eq rf_hk_mono _
theorem r_layPieces_1 (ret : Option mV → rf_M → Prop) (μ : rf_M) (ls : List (Option mV)) : W_layPieces ret (1, ls, [.inr (some 39)], μ, 0, 0) = W_layPieces ret (2, ls, [.inl (nI 0), .inr (some 39)], μ, 0, 0) := mm_W_eq rf_hk_mono _
theorem r_layPieces_2 (ret : Option mV → rf_M → Prop) (μ : rf_M) (x0 : Int32) (ls : List (Option mV)) : W_layPieces ret (2, ls, [.inl x0, .inr (some 39)], μ, 0, 0) = W_layPieces ret (5, ls, [], (upd μ.1 24 x0, μ.2), 0, 0) := mm_W_eq rf_hk_mono _
theorem r_layPieces_5 (ret : Option mV → rf_M → Prop) (μ : rf_M) (ls : List (Option mV)) : W_layPieces ret (5, ls, [], μ, 0, 0) = W_layPieces ret (6, ls, [.inl (nI 0)], μ, 0, 0) := mm_W_eq rf_hk_mono _
theorem r_layPieces_6 (ret : Option mV → rf_M → Prop) (μ : rf_M) (x0 : Int32) (l0 l1 l2 l3 l4 l5 : Option mV) : W_layPieces ret (6, [l0, l1, l2, l3, l4, l5], [.inl x0], μ, 0, 0) = W_layPieces ret (7, [l0, l1, some (.inl x0), l3, l4, l5], [], μ, 0, 0) := mm_W_eq rf_hk_mono _
theorem r_layPieces_7 (ret : Option mV → rf_M → Prop) (μ : rf_M) (ls : List (Option mV)) : W_layPieces ret (7, ls, [], μ, 0, 0) = W_layPieces ret (8, ls, [.inl (nI 1)], μ, 0, 0) := mm_W_eq rf_hk_mono _
theorem r_layPieces_8 (ret : Option mV → rf_M → Prop) (μ : rf_M) (x0 : Int32) (l0 l1 l2 l3 l4 l5 : Option mV) : W_layPieces ret (8, [l0, l1, l2, l3, l4, l5], [.inl x0], μ, 0, 0) = W_layPieces ret (9, [l0, l1, l2, some (.inl x0), l4, l5], [], μ, 0, 0) := mm_W_eq rf_hk_mono _
theorem r_layPieces_9 (ret : Option mV → rf_M → Prop) (μ : rf_M) (l1 l2 l3 l4 l5 : Option mV) : W_layPieces ret (9, [some (.inr (some 39)), l1, l2, l3, l4, l5], [], μ, 0, 0) = W_layPieces ret (10, [some (.inr (some 39)), l1, l2, l3, l4, l5], [.inr (some 39)], μ, 0, 0) := mm_W_eq rf_hk_mono _
theorem r_layPieces_10 (ret : Option mV → rf_M → Prop) (μ : rf_M) (ls : List (Option mV)) : W_layPieces ret (10, ls, [.inr (some 39)], μ, 0, 0) = W_layPieces ret (13, ls, [.inr (some 25)], μ, 0, 0) := mm_W_eq rf_hk_mono _
theorem r_layPieces_13 (ret : Option mV → rf_M → Prop) (μ : rf_M) (ls : List (Option mV)) : W_layPieces ret (13, ls, [.inr (some 25)], μ, 0, 0) = W_layPieces ret (14, ls, [.inl (nI 0), .inr (some 25)], μ, 0, 0) := mm_W_eq rf_hk_mono _
theorem r_layPieces_14 (ret : Option mV → rf_M → Prop) (μ : rf_M) (x0 y : Int32) (l0 l2 l3 l4 l5 : Option mV) : W_layPieces ret (14, [l0, some (.inl y), l2, l3, l4, l5], [.inl x0, .inr (some 25)], μ, 0, 0) = W_layPieces ret (15, [l0, some (.inl y), l2, l3, l4, l5], [.inl y, .inl x0, .inr (some 25)], μ, 0, 0) := mm_W_eq rf_hk_mono _
theorem r_layPieces_15 (ret : Option mV → rf_M → Prop) (μ : rf_M) (x0 x1 : Int32) (ls : List (Option mV)) : W_layPieces ret (15, ls, [.inl x0, .inl x1, .inr (some 25)], μ, 0, 0) = (vp_in x1 512 ∧ W_layPieces ret (16, ls, [], (μ.1, rf_up μ.2 25 x1.toNatClampNeg x0), 0, 0)) := mm_W_eq rf_hk_mono _
theorem r_layPieces_16 (ret : Option mV → rf_M → Prop) (μ : rf_M) (l1 l2 l3 l4 l5 : Option mV) : W_layPieces ret (16, [some (.inr (some 39)), l1, l2, l3, l4, l5], [], μ, 0, 0) = W_layPieces ret (17, [some (.inr (some 39)), l1, l2, l3, l4, l5], [.inr (some 39)], μ, 0, 0) := mm_W_eq rf_hk_mono _
theorem r_layPieces_17 (ret : Option mV → rf_M → Prop) (μ : rf_M) (ls : List (Option mV)) : W_layPieces ret (17, ls, [.inr (some 39)], μ, 0, 0) = W_layPieces ret (20, ls, [.inr (some 26)], μ, 0, 0) := mm_W_eq rf_hk_mono _
theorem r_layPieces_20 (ret : Option mV → rf_M → Prop) (μ : rf_M) (ls : List (Option mV)) : W_layPieces ret (20, ls, [.inr (some 26)], μ, 0, 0) = W_layPieces ret (21, ls, [.inl (nI 0), .inr (some 26)], μ, 0, 0) := mm_W_eq rf_hk_mono _
theorem r_layPieces_21 (ret : Option mV → rf_M → Prop) (μ : rf_M) (x0 : Int32) (ls : List (Option mV)) : W_layPieces ret (21, ls, [.inl x0, .inr (some 26)], μ, 0, 0) = W_layPieces ret (22, ls, [.inl (nI 0), .inl x0, .inr (some 26)], μ, 0, 0) := mm_W_eq rf_hk_mono _
theorem r_layPieces_22 (ret : Option mV → rf_M → Prop) (μ : rf_M) (x0 x1 : Int32) (ls : List (Option mV)) : W_layPieces ret (22, ls, [.inl x0, .inl x1, .inr (some 26)], μ, 0, 0) = (vp_in x1 512 ∧ W_layPieces ret (23, ls, [], (μ.1, rf_up μ.2 26 x1.toNatClampNeg x0), 0, 0)) := mm_W_eq rf_hk_mono _
theorem r_layPieces_23 (ret : Option mV → rf_M → Prop) (μ : rf_M) (y : Int32) (l0 l1 l2 l4 l5 : Option mV) : W_layPieces ret (23, [l0, l1, l2, some (.inl y), l4, l5], [], μ, 0, 0) = W_layPieces ret (24, [l0, l1, l2, some (.inl y), l4, l5], [.inl y], μ, 0, 0) := mm_W_eq rf_hk_mono _
theorem r_layPieces_24 (ret : Option mV → rf_M → Prop) (μ : rf_M) (x0 : Int32) (ls : List (Option mV)) : W_layPieces ret (24, ls, [.inl x0], μ, 0, 0) = ((x0 ≤ 0 → W_layPieces ret (150, ls, [], μ, 0, 0)) ∧ (¬ x0 ≤ 0 → W_layPieces ret (27, ls, [], μ, 0, 0))) := mm_W_eq rf_hk_mono _
theorem r_layPieces_27 (ret : Option mV → rf_M → Prop) (μ : rf_M) (y : Int32) (l0 l1 l2 l4 l5 : Option mV) : W_layPieces ret (27, [l0, l1, l2, some (.inl y), l4, l5], [], μ, 0, 0) = W_layPieces ret (30, [l0, l1, l2, some (.inl (y + Int32.ofInt (-1))), l4, l5], [], μ, 0, 0) := mm_W_eq rf_hk_mono _
theorem r_layPieces_30 (ret : Option mV → rf_M → Prop) (μ : rf_M) (l1 l2 l3 l4 l5 : Option mV) : W_layPieces ret (30, [some (.inr (some 39)), l1, l2, l3, l4, l5], [], μ, 0, 0) = W_layPieces ret (31, [some (.inr (some 39)), l1, l2, l3, l4, l5], [.inr (some 39)], μ, 0, 0) := mm_W_eq rf_hk_mono _
theorem r_layPieces_31 (ret : Option mV → rf_M → Prop) (μ : rf_M) (ls : List (Option mV)) : W_layPieces ret (31, ls, [.inr (some 39)], μ, 0, 0) = W_layPieces ret (34, ls, [.inr (some 25)], μ, 0, 0) := mm_W_eq rf_hk_mono _
theorem r_layPieces_34 (ret : Option mV → rf_M → Prop) (μ : rf_M) (y : Int32) (l0 l1 l2 l4 l5 : Option mV) : W_layPieces ret (34, [l0, l1, l2, some (.inl y), l4, l5], [.inr (some 25)], μ, 0, 0) = W_layPieces ret (35, [l0, l1, l2, some (.inl y), l4, l5], [.inl y, .inr (some 25)], μ, 0, 0) := mm_W_eq rf_hk_mono _
theorem r_layPieces_35 (ret : Option mV → rf_M → Prop) (μ : rf_M) (x0 : Int32) (ls : List (Option mV)) : W_layPieces ret (35, ls, [.inl x0, .inr (some 25)], μ, 0, 0) = (vp_in x0 512 ∧ W_layPieces ret (36, ls, [.inl (μ.2 25 x0.toNatClampNeg)], μ, 0, 0)) := mm_W_eq rf_hk_mono _
theorem r_layPieces_36 (ret : Option mV → rf_M → Prop) (μ : rf_M) (x0 : Int32) (l0 l1 l2 l3 l4 l5 : Option mV) : W_layPieces ret (36, [l0, l1, l2, l3, l4, l5], [.inl x0], μ, 0, 0) = W_layPieces ret (38, [l0, l1, l2, l3, some (.inl x0), l5], [], μ, 0, 0) := mm_W_eq rf_hk_mono _
theorem r_layPieces_38 (ret : Option mV → rf_M → Prop) (μ : rf_M) (l1 l2 l3 l4 l5 : Option mV) : W_layPieces ret (38, [some (.inr (some 39)), l1, l2, l3, l4, l5], [], μ, 0, 0) = W_layPieces ret (39, [some (.inr (some 39)), l1, l2, l3, l4, l5], [.inr (some 39)], μ, 0, 0) := mm_W_eq rf_hk_mono _
theorem r_layPieces_39 (ret : Option mV → rf_M → Prop) (μ : rf_M) (ls : List (Option mV)) : W_layPieces ret (39, ls, [.inr (some 39)], μ, 0, 0) = W_layPieces ret (42, ls, [.inr (some 26)], μ, 0, 0) := mm_W_eq rf_hk_mono _
theorem r_layPieces_42 (ret : Option mV → rf_M → Prop) (μ : rf_M) (y : Int32) (l0 l1 l2 l4 l5 : Option mV) : W_layPieces ret (42, [l0, l1, l2, some (.inl y), l4, l5], [.inr (some 26)], μ, 0, 0) = W_layPieces ret (43, [l0, l1, l2, some (.inl y), l4, l5], [.inl y, .inr (some 26)], μ, 0, 0) := mm_W_eq rf_hk_mono _
theorem r_layPieces_43 (ret : Option mV → rf_M → Prop) (μ : rf_M) (x0 : Int32) (ls : List (Option mV)) : W_layPieces ret (43, ls, [.inl x0, .inr (some 26)], μ, 0, 0) = (vp_in x0 512 ∧ W_layPieces ret (44, ls, [.inl (μ.2 26 x0.toNatClampNeg)], μ, 0, 0)) := mm_W_eq rf_hk_mono _
theorem r_layPieces_44 (ret : Option mV → rf_M → Prop) (μ : rf_M) (x0 : Int32) (l0 l1 l2 l3 l4 l5 : Option mV) : W_layPieces ret (44, [l0, l1, l2, l3, l4, l5], [.inl x0], μ, 0, 0) = W_layPieces ret (46, [l0, l1, l2, l3, l4, some (.inl x0)], [], μ, 0, 0) := mm_W_eq rf_hk_mono _
theorem r_layPieces_46 (ret : Option mV → rf_M → Prop) (μ : rf_M) (y : Int32) (l0 l1 l2 l3 l4 : Option mV) : W_layPieces ret (46, [l0, l1, l2, l3, l4, some (.inl y)], [], μ, 0, 0) = W_layPieces ret (48, [l0, l1, l2, l3, l4, some (.inl y)], [.inl y], μ, 0, 0) := mm_W_eq rf_hk_mono _
theorem r_layPieces_48 (ret : Option mV → rf_M → Prop) (μ : rf_M) (x0 y : Int32) (l0 l1 l3 l4 l5 : Option mV) : W_layPieces ret (48, [l0, l1, some (.inl y), l3, l4, l5], [.inl x0], μ, 0, 0) = W_layPieces ret (49, [l0, l1, some (.inl y), l3, l4, l5], [.inl y, .inl x0], μ, 0, 0) := mm_W_eq rf_hk_mono _
theorem r_layPieces_49 (ret : Option mV → rf_M → Prop) (μ : rf_M) (x0 x1 : Int32) (ls : List (Option mV)) : W_layPieces ret (49, ls, [.inl x0, .inl x1], μ, 0, 0) = ((x1 ≤ x0 → W_layPieces ret (57, ls, [], μ, 0, 0)) ∧ (¬ x1 ≤ x0 → W_layPieces ret (52, ls, [], μ, 0, 0))) := mm_W_eq rf_hk_mono _
theorem r_layPieces_52 (ret : Option mV → rf_M → Prop) (μ : rf_M) (y : Int32) (l0 l1 l2 l3 l4 : Option mV) : W_layPieces ret (52, [l0, l1, l2, l3, l4, some (.inl y)], [], μ, 0, 0) = W_layPieces ret (54, [l0, l1, l2, l3, l4, some (.inl y)], [.inl y], μ, 0, 0) := mm_W_eq rf_hk_mono _
set_option maxRecDepth 8000 in
theorem r_layPieces_54 (ret : Option mV → rf_M → Prop) (μ : rf_M) (x0 : Int32) (ls : List (Option mV)) : W_layPieces ret (54, ls, [.inl x0], μ, 0, 0) = W_layPieces ret (58, ls, [.inl x0], μ, 0, 0) := mm_W_eq rf_hk_mono _
theorem r_layPieces_57 (ret : Option mV → rf_M → Prop) (μ : rf_M) (y : Int32) (l0 l1 l3 l4 l5 : Option mV) : W_layPieces ret (57, [l0, l1, some (.inl y), l3, l4, l5], [], μ, 0, 0) = W_layPieces ret (58, [l0, l1, some (.inl y), l3, l4, l5], [.inl y], μ, 0, 0) := mm_W_eq rf_hk_mono _
theorem r_layPieces_58 (ret : Option mV → rf_M → Prop) (μ : rf_M) (x0 : Int32) (l0 l1 l2 l3 l4 l5 : Option mV) : W_layPieces ret (58, [l0, l1, l2, l3, l4, l5], [.inl x0], μ, 0, 0) = W_layPieces ret (59, [l0, l1, some (.inl x0), l3, l4, l5], [], μ, 0, 0) := mm_W_eq rf_hk_mono _
theorem r_layPieces_59 (ret : Option mV → rf_M → Prop) (μ : rf_M) (l1 l2 l3 l4 l5 : Option mV) : W_layPieces ret (59, [some (.inr (some 39)), l1, l2, l3, l4, l5], [], μ, 0, 0) = W_layPieces ret (60, [some (.inr (some 39)), l1, l2, l3, l4, l5], [.inr (some 39)], μ, 0, 0) := mm_W_eq rf_hk_mono _
theorem r_layPieces_60 (ret : Option mV → rf_M → Prop) (μ : rf_M) (ls : List (Option mV)) : W_layPieces ret (60, ls, [.inr (some 39)], μ, 0, 0) = W_layPieces ret (63, ls, [.inr (some 0)], μ, 0, 0) := mm_W_eq rf_hk_mono _
set_option maxRecDepth 8000 in
theorem r_layPieces_63 (ret : Option mV → rf_M → Prop) (μ : rf_M) (y : Int32) (l0 l1 l2 l3 l5 : Option mV) : W_layPieces ret (63, [l0, l1, l2, l3, some (.inl y), l5], [.inr (some 0)], μ, 0, 0) = W_layPieces ret (65, [l0, l1, l2, l3, some (.inl y), l5], [.inl y, .inr (some 0)], μ, 0, 0) := mm_W_eq rf_hk_mono _
set_option maxRecDepth 8000 in
theorem r_layPieces_65 (ret : Option mV → rf_M → Prop) (μ : rf_M) (x0 : Int32) (ls : List (Option mV)) : W_layPieces ret (65, ls, [.inl x0, .inr (some 0)], μ, 0, 0) = (vp_in x0 20480 ∧ W_layPieces ret (66, ls, [.inl (μ.2 0 x0.toNatClampNeg)], μ, 0, 0)) := mm_W_eq rf_hk_mono _
set_option maxRecDepth 8000 in
theorem r_layPieces_66 (ret : Option mV → rf_M → Prop) (μ : rf_M) (x0 : Int32) (ls : List (Option mV)) : W_layPieces ret (66, ls, [.inl x0], μ, 0, 0) = W_layPieces ret (67, ls, [.inl (nI 2), .inl x0], μ, 0, 0) := mm_W_eq rf_hk_mono _
set_option maxRecDepth 8000 in
theorem r_layPieces_67 (ret : Option mV → rf_M → Prop) (μ : rf_M) (x0 x1 : Int32) (ls : List (Option mV)) : W_layPieces ret (67, ls, [.inl x0, .inl x1], μ, 0, 0) = ((¬ x1 = x0 → W_layPieces ret (126, ls, [], μ, 0, 0)) ∧ (¬ (¬ x1 = x0) → W_layPieces ret (70, ls, [], μ, 0, 0))) := mm_W_eq rf_hk_mono _
set_option maxRecDepth 8000 in
theorem r_layPieces_70 (ret : Option mV → rf_M → Prop) (μ : rf_M) (l1 l2 l3 l4 l5 : Option mV) : W_layPieces ret (70, [some (.inr (some 39)), l1, l2, l3, l4, l5], [], μ, 0, 0) = W_layPieces ret (71, [some (.inr (some 39)), l1, l2, l3, l4, l5], [.inr (some 39)], μ, 0, 0) := mm_W_eq rf_hk_mono _
set_option maxRecDepth 8000 in
theorem r_layPieces_71 (ret : Option mV → rf_M → Prop) (μ : rf_M) (ls : List (Option mV)) : W_layPieces ret (71, ls, [.inr (some 39)], μ, 0, 0) = W_layPieces ret (74, ls, [.inr (some 25)], μ, 0, 0) := mm_W_eq rf_hk_mono _
set_option maxRecDepth 8000 in
theorem r_layPieces_74 (ret : Option mV → rf_M → Prop) (μ : rf_M) (y : Int32) (l0 l1 l2 l4 l5 : Option mV) : W_layPieces ret (74, [l0, l1, l2, some (.inl y), l4, l5], [.inr (some 25)], μ, 0, 0) = W_layPieces ret (75, [l0, l1, l2, some (.inl y), l4, l5], [.inl y, .inr (some 25)], μ, 0, 0) := mm_W_eq rf_hk_mono _
set_option maxRecDepth 8000 in
theorem r_layPieces_75 (ret : Option mV → rf_M → Prop) (μ : rf_M) (x0 : Int32) (l1 l2 l3 l4 l5 : Option mV) : W_layPieces ret (75, [some (.inr (some 39)), l1, l2, l3, l4, l5], [.inl x0, .inr (some 25)], μ, 0, 0) = W_layPieces ret (76, [some (.inr (some 39)), l1, l2, l3, l4, l5], [.inr (some 39), .inl x0, .inr (some 25)], μ, 0, 0) := mm_W_eq rf_hk_mono _
set_option maxRecDepth 8000 in
theorem r_layPieces_76 (ret : Option mV → rf_M → Prop) (μ : rf_M) (x1 : Int32) (ls : List (Option mV)) : W_layPieces ret (76, ls, [.inr (some 39), .inl x1, .inr (some 25)], μ, 0, 0) = W_layPieces ret (79, ls, [.inr (some 2), .inl x1, .inr (some 25)], μ, 0, 0) := mm_W_eq rf_hk_mono _
set_option maxRecDepth 8000 in
theorem r_layPieces_79 (ret : Option mV → rf_M → Prop) (μ : rf_M) (x1 y : Int32) (l0 l1 l2 l3 l5 : Option mV) : W_layPieces ret (79, [l0, l1, l2, l3, some (.inl y), l5], [.inr (some 2), .inl x1, .inr (some 25)], μ, 0, 0) = W_layPieces ret (81, [l0, l1, l2, l3, some (.inl y), l5], [.inl y, .inr (some 2), .inl x1, .inr (some 25)], μ, 0, 0) := mm_W_eq rf_hk_mono _
set_option maxRecDepth 8000 in
theorem r_layPieces_81 (ret : Option mV → rf_M → Prop) (μ : rf_M) (x0 x2 : Int32) (ls : List (Option mV)) : W_layPieces ret (81, ls, [.inl x0, .inr (some 2), .inl x2, .inr (some 25)], μ, 0, 0) = (vp_in x0 20480 ∧ W_layPieces ret (82, ls, [.inl (μ.2 2 x0.toNatClampNeg), .inl x2, .inr (some 25)], μ, 0, 0)) := mm_W_eq rf_hk_mono _
set_option maxRecDepth 8000 in
theorem r_layPieces_82 (ret : Option mV → rf_M → Prop) (μ : rf_M) (x0 x1 : Int32) (ls : List (Option mV)) : W_layPieces ret (82, ls, [.inl x0, .inl x1, .inr (some 25)], μ, 0, 0) = (vp_in x1 512 ∧ W_layPieces ret (83, ls, [], (μ.1, rf_up μ.2 25 x1.toNatClampNeg x0), 0, 0)) := mm_W_eq rf_hk_mono _
set_option maxRecDepth 8000 in
theorem r_layPieces_83 (ret : Option mV → rf_M → Prop) (μ : rf_M) (l1 l2 l3 l4 l5 : Option mV) : W_layPieces ret (83, [some (.inr (some 39)), l1, l2, l3, l4, l5], [], μ, 0, 0) = W_layPieces ret (84, [some (.inr (some 39)), l1, l2, l3, l4, l5], [.inr (some 39)], μ, 0, 0) := mm_W_eq rf_hk_mono _
set_option maxRecDepth 8000 in
theorem r_layPieces_84 (ret : Option mV → rf_M → Prop) (μ : rf_M) (ls : List (Option mV)) : W_layPieces ret (84, ls, [.inr (some 39)], μ, 0, 0) = W_layPieces ret (87, ls, [.inr (some 26)], μ, 0, 0) := mm_W_eq rf_hk_mono _
set_option maxRecDepth 8000 in
theorem r_layPieces_87 (ret : Option mV → rf_M → Prop) (μ : rf_M) (y : Int32) (l0 l1 l2 l4 l5 : Option mV) : W_layPieces ret (87, [l0, l1, l2, some (.inl y), l4, l5], [.inr (some 26)], μ, 0, 0) = W_layPieces ret (88, [l0, l1, l2, some (.inl y), l4, l5], [.inl y, .inr (some 26)], μ, 0, 0) := mm_W_eq rf_hk_mono _
set_option maxRecDepth 8000 in
theorem r_layPieces_88 (ret : Option mV → rf_M → Prop) (μ : rf_M) (x0 y : Int32) (l0 l1 l2 l3 l4 : Option mV) : W_layPieces ret (88, [l0, l1, l2, l3, l4, some (.inl y)], [.inl x0, .inr (some 26)], μ, 0, 0) = W_layPieces ret (90, [l0, l1, l2, l3, l4, some (.inl y)], [.inl y, .inl x0, .inr (some 26)], μ, 0, 0) := mm_W_eq rf_hk_mono _
set_option maxRecDepth 8000 in
theorem r_layPieces_90 (ret : Option mV → rf_M → Prop) (μ : rf_M) (x0 x1 : Int32) (ls : List (Option mV)) : W_layPieces ret (90, ls, [.inl x0, .inl x1, .inr (some 26)], μ, 0, 0) = W_layPieces ret (91, ls, [.inl (nI 1), .inl x0, .inl x1, .inr (some 26)], μ, 0, 0) := mm_W_eq rf_hk_mono _
set_option maxRecDepth 8000 in
theorem r_layPieces_91 (ret : Option mV → rf_M → Prop) (μ : rf_M) (x0 x1 x2 : Int32) (ls : List (Option mV)) : W_layPieces ret (91, ls, [.inl x0, .inl x1, .inl x2, .inr (some 26)], μ, 0, 0) = W_layPieces ret (92, ls, [.inl (x1 + x0), .inl x2, .inr (some 26)], μ, 0, 0) := mm_W_eq rf_hk_mono _
set_option maxRecDepth 8000 in
theorem r_layPieces_92 (ret : Option mV → rf_M → Prop) (μ : rf_M) (x0 x1 : Int32) (ls : List (Option mV)) : W_layPieces ret (92, ls, [.inl x0, .inl x1, .inr (some 26)], μ, 0, 0) = (vp_in x1 512 ∧ W_layPieces ret (93, ls, [], (μ.1, rf_up μ.2 26 x1.toNatClampNeg x0), 0, 0)) := mm_W_eq rf_hk_mono _
set_option maxRecDepth 8000 in
theorem r_layPieces_93 (ret : Option mV → rf_M → Prop) (μ : rf_M) (l1 l2 l3 l4 l5 : Option mV) : W_layPieces ret (93, [some (.inr (some 39)), l1, l2, l3, l4, l5], [], μ, 0, 0) = W_layPieces ret (94, [some (.inr (some 39)), l1, l2, l3, l4, l5], [.inr (some 39)], μ, 0, 0) := mm_W_eq rf_hk_mono _
set_option maxRecDepth 8000 in
theorem r_layPieces_94 (ret : Option mV → rf_M → Prop) (μ : rf_M) (ls : List (Option mV)) : W_layPieces ret (94, ls, [.inr (some 39)], μ, 0, 0) = W_layPieces ret (97, ls, [.inr (some 25)], μ, 0, 0) := mm_W_eq rf_hk_mono _
set_option maxRecDepth 8000 in
theorem r_layPieces_97 (ret : Option mV → rf_M → Prop) (μ : rf_M) (y : Int32) (l0 l1 l2 l4 l5 : Option mV) : W_layPieces ret (97, [l0, l1, l2, some (.inl y), l4, l5], [.inr (some 25)], μ, 0, 0) = W_layPieces ret (98, [l0, l1, l2, some (.inl y), l4, l5], [.inl y, .inr (some 25)], μ, 0, 0) := mm_W_eq rf_hk_mono _
set_option maxRecDepth 8000 in
theorem r_layPieces_98 (ret : Option mV → rf_M → Prop) (μ : rf_M) (x0 : Int32) (ls : List (Option mV)) : W_layPieces ret (98, ls, [.inl x0, .inr (some 25)], μ, 0, 0) = W_layPieces ret (99, ls, [.inl (nI 1), .inl x0, .inr (some 25)], μ, 0, 0) := mm_W_eq rf_hk_mono _
set_option maxRecDepth 8000 in
theorem r_layPieces_99 (ret : Option mV → rf_M → Prop) (μ : rf_M) (x0 x1 : Int32) (ls : List (Option mV)) : W_layPieces ret (99, ls, [.inl x0, .inl x1, .inr (some 25)], μ, 0, 0) = W_layPieces ret (100, ls, [.inl (x1 + x0), .inr (some 25)], μ, 0, 0) := mm_W_eq rf_hk_mono _
set_option maxRecDepth 8000 in
theorem r_layPieces_100 (ret : Option mV → rf_M → Prop) (μ : rf_M) (x0 : Int32) (l1 l2 l3 l4 l5 : Option mV) : W_layPieces ret (100, [some (.inr (some 39)), l1, l2, l3, l4, l5], [.inl x0, .inr (some 25)], μ, 0, 0) = W_layPieces ret (101, [some (.inr (some 39)), l1, l2, l3, l4, l5], [.inr (some 39), .inl x0, .inr (some 25)], μ, 0, 0) := mm_W_eq rf_hk_mono _
set_option maxRecDepth 8000 in
theorem r_layPieces_101 (ret : Option mV → rf_M → Prop) (μ : rf_M) (x1 : Int32) (ls : List (Option mV)) : W_layPieces ret (101, ls, [.inr (some 39), .inl x1, .inr (some 25)], μ, 0, 0) = W_layPieces ret (104, ls, [.inr (some 1), .inl x1, .inr (some 25)], μ, 0, 0) := mm_W_eq rf_hk_mono _
set_option maxRecDepth 8000 in
theorem r_layPieces_104 (ret : Option mV → rf_M → Prop) (μ : rf_M) (x1 y : Int32) (l0 l1 l2 l3 l5 : Option mV) : W_layPieces ret (104, [l0, l1, l2, l3, some (.inl y), l5], [.inr (some 1), .inl x1, .inr (some 25)], μ, 0, 0) = W_layPieces ret (106, [l0, l1, l2, l3, some (.inl y), l5], [.inl y, .inr (some 1), .inl x1, .inr (some 25)], μ, 0, 0) := mm_W_eq rf_hk_mono _
set_option maxRecDepth 8000 in
theorem r_layPieces_106 (ret : Option mV → rf_M → Prop) (μ : rf_M) (x0 x2 : Int32) (ls : List (Option mV)) : W_layPieces ret (106, ls, [.inl x0, .inr (some 1), .inl x2, .inr (some 25)], μ, 0, 0) = (vp_in x0 20480 ∧ W_layPieces ret (107, ls, [.inl (μ.2 1 x0.toNatClampNeg), .inl x2, .inr (some 25)], μ, 0, 0)) := mm_W_eq rf_hk_mono _
set_option maxRecDepth 8000 in
theorem r_layPieces_107 (ret : Option mV → rf_M → Prop) (μ : rf_M) (x0 x1 : Int32) (ls : List (Option mV)) : W_layPieces ret (107, ls, [.inl x0, .inl x1, .inr (some 25)], μ, 0, 0) = (vp_in x1 512 ∧ W_layPieces ret (108, ls, [], (μ.1, rf_up μ.2 25 x1.toNatClampNeg x0), 0, 0)) := mm_W_eq rf_hk_mono _
set_option maxRecDepth 8000 in
theorem r_layPieces_108 (ret : Option mV → rf_M → Prop) (μ : rf_M) (l1 l2 l3 l4 l5 : Option mV) : W_layPieces ret (108, [some (.inr (some 39)), l1, l2, l3, l4, l5], [], μ, 0, 0) = W_layPieces ret (109, [some (.inr (some 39)), l1, l2, l3, l4, l5], [.inr (some 39)], μ, 0, 0) := mm_W_eq rf_hk_mono _
set_option maxRecDepth 8000 in
theorem r_layPieces_109 (ret : Option mV → rf_M → Prop) (μ : rf_M) (ls : List (Option mV)) : W_layPieces ret (109, ls, [.inr (some 39)], μ, 0, 0) = W_layPieces ret (112, ls, [.inr (some 26)], μ, 0, 0) := mm_W_eq rf_hk_mono _
set_option maxRecDepth 8000 in
theorem r_layPieces_112 (ret : Option mV → rf_M → Prop) (μ : rf_M) (y : Int32) (l0 l1 l2 l4 l5 : Option mV) : W_layPieces ret (112, [l0, l1, l2, some (.inl y), l4, l5], [.inr (some 26)], μ, 0, 0) = W_layPieces ret (113, [l0, l1, l2, some (.inl y), l4, l5], [.inl y, .inr (some 26)], μ, 0, 0) := mm_W_eq rf_hk_mono _
set_option maxRecDepth 8000 in
theorem r_layPieces_113 (ret : Option mV → rf_M → Prop) (μ : rf_M) (x0 : Int32) (ls : List (Option mV)) : W_layPieces ret (113, ls, [.inl x0, .inr (some 26)], μ, 0, 0) = W_layPieces ret (114, ls, [.inl (nI 1), .inl x0, .inr (some 26)], μ, 0, 0) := mm_W_eq rf_hk_mono _
set_option maxRecDepth 8000 in
theorem r_layPieces_114 (ret : Option mV → rf_M → Prop) (μ : rf_M) (x0 x1 : Int32) (ls : List (Option mV)) : W_layPieces ret (114, ls, [.inl x0, .inl x1, .inr (some 26)], μ, 0, 0) = W_layPieces ret (115, ls, [.inl (x1 + x0), .inr (some 26)], μ, 0, 0) := mm_W_eq rf_hk_mono _
set_option maxRecDepth 8000 in
theorem r_layPieces_115 (ret : Option mV → rf_M → Prop) (μ : rf_M) (x0 y : Int32) (l0 l1 l2 l3 l4 : Option mV) : W_layPieces ret (115, [l0, l1, l2, l3, l4, some (.inl y)], [.inl x0, .inr (some 26)], μ, 0, 0) = W_layPieces ret (117, [l0, l1, l2, l3, l4, some (.inl y)], [.inl y, .inl x0, .inr (some 26)], μ, 0, 0) := mm_W_eq rf_hk_mono _
set_option maxRecDepth 8000 in
theorem r_layPieces_117 (ret : Option mV → rf_M → Prop) (μ : rf_M) (x0 x1 : Int32) (ls : List (Option mV)) : W_layPieces ret (117, ls, [.inl x0, .inl x1, .inr (some 26)], μ, 0, 0) = W_layPieces ret (118, ls, [.inl (nI 1), .inl x0, .inl x1, .inr (some 26)], μ, 0, 0) := mm_W_eq rf_hk_mono _
set_option maxRecDepth 8000 in
theorem r_layPieces_118 (ret : Option mV → rf_M → Prop) (μ : rf_M) (x0 x1 x2 : Int32) (ls : List (Option mV)) : W_layPieces ret (118, ls, [.inl x0, .inl x1, .inl x2, .inr (some 26)], μ, 0, 0) = W_layPieces ret (119, ls, [.inl (x1 + x0), .inl x2, .inr (some 26)], μ, 0, 0) := mm_W_eq rf_hk_mono _
set_option maxRecDepth 8000 in
theorem r_layPieces_119 (ret : Option mV → rf_M → Prop) (μ : rf_M) (x0 x1 : Int32) (ls : List (Option mV)) : W_layPieces ret (119, ls, [.inl x0, .inl x1, .inr (some 26)], μ, 0, 0) = (vp_in x1 512 ∧ W_layPieces ret (120, ls, [], (μ.1, rf_up μ.2 26 x1.toNatClampNeg x0), 0, 0)) := mm_W_eq rf_hk_mono _
set_option maxRecDepth 8000 in
theorem r_layPieces_120 (ret : Option mV → rf_M → Prop) (μ : rf_M) (y : Int32) (l0 l1 l2 l4 l5 : Option mV) : W_layPieces ret (120, [l0, l1, l2, some (.inl y), l4, l5], [], μ, 0, 0) = W_layPieces ret (123, [l0, l1, l2, some (.inl (y + nI 2)), l4, l5], [], μ, 0, 0) := mm_W_eq rf_hk_mono _
set_option maxRecDepth 8000 in
theorem r_layPieces_123 (ret : Option mV → rf_M → Prop) (μ : rf_M) (ls : List (Option mV)) : W_layPieces ret (123, ls, [], μ, 0, 0) = W_layPieces ret (147, ls, [], μ, 0, 0) := mm_W_eq rf_hk_mono _
set_option maxRecDepth 8000 in
theorem r_layPieces_126 (ret : Option mV → rf_M → Prop) (μ : rf_M) (l1 l2 l3 l4 l5 : Option mV) : W_layPieces ret (126, [some (.inr (some 39)), l1, l2, l3, l4, l5], [], μ, 0, 0) = W_layPieces ret (127, [some (.inr (some 39)), l1, l2, l3, l4, l5], [.inr (some 39)], μ, 0, 0) := mm_W_eq rf_hk_mono _
set_option maxRecDepth 8000 in
theorem r_layPieces_127 (ret : Option mV → rf_M → Prop) (μ : rf_M) (ls : List (Option mV)) : W_layPieces ret (127, ls, [.inr (some 39)], μ, 0, 0) = W_layPieces ret (130, ls, [.inr (some 23)], μ, 0, 0) := mm_W_eq rf_hk_mono _
set_option maxRecDepth 8000 in
theorem r_layPieces_130 (ret : Option mV → rf_M → Prop) (μ : rf_M) (l1 l2 l3 l4 l5 : Option mV) : W_layPieces ret (130, [some (.inr (some 39)), l1, l2, l3, l4, l5], [.inr (some 23)], μ, 0, 0) = W_layPieces ret (131, [some (.inr (some 39)), l1, l2, l3, l4, l5], [.inr (some 39), .inr (some 23)], μ, 0, 0) := mm_W_eq rf_hk_mono _
set_option maxRecDepth 8000 in
theorem r_layPieces_131 (ret : Option mV → rf_M → Prop) (μ : rf_M) (ls : List (Option mV)) : W_layPieces ret (131, ls, [.inr (some 39), .inr (some 23)], μ, 0, 0) = W_layPieces ret (134, ls, [.inl (μ.1 24), .inr (some 23)], μ, 0, 0) := mm_W_eq rf_hk_mono _
set_option maxRecDepth 8000 in
theorem r_layPieces_134 (ret : Option mV → rf_M → Prop) (μ : rf_M) (x0 y : Int32) (l0 l1 l2 l3 l5 : Option mV) : W_layPieces ret (134, [l0, l1, l2, l3, some (.inl y), l5], [.inl x0, .inr (some 23)], μ, 0, 0) = W_layPieces ret (136, [l0, l1, l2, l3, some (.inl y), l5], [.inl y, .inl x0, .inr (some 23)], μ, 0, 0) := mm_W_eq rf_hk_mono _
set_option maxRecDepth 8000 in
theorem r_layPieces_136 (ret : Option mV → rf_M → Prop) (μ : rf_M) (x0 x1 : Int32) (ls : List (Option mV)) : W_layPieces ret (136, ls, [.inl x0, .inl x1, .inr (some 23)], μ, 0, 0) = (vp_in x1 240 ∧ W_layPieces ret (137, ls, [], (μ.1, rf_up μ.2 23 x1.toNatClampNeg x0), 0, 0)) := mm_W_eq rf_hk_mono _
set_option maxRecDepth 8000 in
theorem r_layPieces_137 (ret : Option mV → rf_M → Prop) (μ : rf_M) (l1 l2 l3 l4 l5 : Option mV) : W_layPieces ret (137, [some (.inr (some 39)), l1, l2, l3, l4, l5], [], μ, 0, 0) = W_layPieces ret (138, [some (.inr (some 39)), l1, l2, l3, l4, l5], [.inr (some 39)], μ, 0, 0) := mm_W_eq rf_hk_mono _
set_option maxRecDepth 8000 in
theorem r_layPieces_138 (ret : Option mV → rf_M → Prop) (μ : rf_M) (ls : List (Option mV)) : W_layPieces ret (138, ls, [.inr (some 39)], μ, 0, 0) = W_layPieces ret (139, ls, [.inr (some 39), .inr (some 39)], μ, 0, 0) := mm_W_eq rf_hk_mono _
set_option maxRecDepth 8000 in
theorem r_layPieces_139 (ret : Option mV → rf_M → Prop) (μ : rf_M) (ls : List (Option mV)) : W_layPieces ret (139, ls, [.inr (some 39), .inr (some 39)], μ, 0, 0) = W_layPieces ret (142, ls, [.inl (μ.1 24), .inr (some 39)], μ, 0, 0) := mm_W_eq rf_hk_mono _
set_option maxRecDepth 8000 in
theorem r_layPieces_142 (ret : Option mV → rf_M → Prop) (μ : rf_M) (x0 : Int32) (ls : List (Option mV)) : W_layPieces ret (142, ls, [.inl x0, .inr (some 39)], μ, 0, 0) = W_layPieces ret (143, ls, [.inl (nI 1), .inl x0, .inr (some 39)], μ, 0, 0) := mm_W_eq rf_hk_mono _
set_option maxRecDepth 8000 in
theorem r_layPieces_143 (ret : Option mV → rf_M → Prop) (μ : rf_M) (x0 x1 : Int32) (ls : List (Option mV)) : W_layPieces ret (143, ls, [.inl x0, .inl x1, .inr (some 39)], μ, 0, 0) = W_layPieces ret (144, ls, [.inl (x1 + x0), .inr (some 39)], μ, 0, 0) := mm_W_eq rf_hk_mono _
set_option maxRecDepth 8000 in
theorem r_layPieces_144 (ret : Option mV → rf_M → Prop) (μ : rf_M) (x0 : Int32) (ls : List (Option mV)) : W_layPieces ret (144, ls, [.inl x0, .inr (some 39)], μ, 0, 0) = W_layPieces ret (147, ls, [], (upd μ.1 24 x0, μ.2), 0, 0) := mm_W_eq rf_hk_mono _
set_option maxRecDepth 8000 in
theorem r_layPieces_147 (ret : Option mV → rf_M → Prop) (μ : rf_M) (ls : List (Option mV)) : W_layPieces ret (147, ls, [], μ, 0, 0) = W_layPieces ret (23, ls, [], μ, 0, 0) := mm_W_eq rf_hk_mono _
set_option maxRecDepth 8000 in
theorem r_layPieces_150 (ret : Option mV → rf_M → Prop) (μ : rf_M) (y : Int32) (l0 l1 l3 l4 l5 : Option mV) : W_layPieces ret (150, [l0, l1, some (.inl y), l3, l4, l5], [], μ, 0, 0) = W_layPieces ret (151, [l0, l1, some (.inl y), l3, l4, l5], [.inl y], μ, 0, 0) := mm_W_eq rf_hk_mono _
set_option maxRecDepth 8000 in
theorem r_layPieces_151 (ret : Option mV → rf_M → Prop) (μ : rf_M) (x0 : Int32) (ls : List (Option mV)) : W_layPieces ret (151, ls, [.inl x0], μ, 0, 0) = ret (some (.inl x0)) μ := mm_W_eq rf_hk_mono _
theorem e_layPieces (a0 : Int32) (μ : rf_M) (ret : Option mV → rf_M → Prop) (h : W_layPieces ret (0, [some (.inr (some 39)), some (.inl a0), none, none, none, none], [], μ, 0, 0)) : P_layPieces [.inr (some 39), .inl a0] μ 0 0 ret := ⟨rfl, Nat.le_of_ble_eq_true rfl, h⟩
theorem so_layPieces (l : Launch) (D : va_G) (cs sa ad : Nat → Nat) (A : Nat → Prop) : mm_So l (rf_W D cs ad A) (kk D cs sa A) ad A yX7_layPieces cX7_layPieces 6 (some .int) 0 P_layPieces := rf_So (rf_sound (by decide) (by decide +kernel) rfl (fun p e mc ms s0 m args below meth c F hK hA => fun _ h => absurd h List.not_mem_nil))
