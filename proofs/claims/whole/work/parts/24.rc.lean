/-! count -/
def cd_count : mC := [(0, .iload_n 1, 1), (1, .tableswitch 142 0 12 #[67, 72, 82, 87, 92, 97, 142, 142, 142, 142, 127, 132, 137], 67), (68, .aload_n 0, 1), (69, .invokevirtual 227, 3), (72, .ireturn, 1), (73, .aload_n 0, 1), (74, .invokevirtual 227, 3), (77, .pop, 1), (78, .aload_n 0, 1), (79, .invokevirtual 194, 3), (82, .ireturn, 1), (83, .aload_n 0, 1), (84, .getfield 129, 3), (87, .ireturn, 1), (88, .aload_n 0, 1), (89, .getfield 224, 3), (92, .ireturn, 1), (93, .aload_n 0, 1), (94, .getfield 178, 3), (97, .ireturn, 1), (98, .aload_n 0, 1), (99, .getfield 40, 3), (102, .iconst 0, 1), (103, .baload, 1), (104, .ifCond .eq 7, 3), (107, .iconst 1, 1), (108, .goto 4, 3), (111, .iconst 0, 1), (112, .aload_n 0, 1), (113, .getfield 40, 3), (116, .iconst 1, 1), (117, .baload, 1), (118, .ifCond .eq 7, 3), (121, .iconst 2, 1), (122, .goto 4, 3), (125, .iconst 0, 1), (126, .iadd, 1), (127, .ireturn, 1), (128, .aload_n 0, 1), (129, .getfield 52, 3), (132, .ireturn, 1), (133, .aload_n 0, 1), (134, .getfield 55, 3), (137, .ireturn, 1), (138, .aload_n 0, 1), (139, .getfield 58, 3), (142, .ireturn, 1), (143, .bipush (-2), 2), (145, .ireturn, 1)]
def sp_count : mQ rf_M := [((0, 227), 1, 1, P_markHeld), ((0, 194), 1, 1, P_roomOfMarked)]
def W_count (ret : Option mV → rf_M → Prop) : mX rf_M → Prop := mm_W 1 cd_count rf_hk sp_count ret
def P_count : mP rf_M := rf_P (mm_Pm 1 cd_count rf_hk sp_count 2)
theorem r_count_0 (ret : Option mV → rf_M → Prop) (μ : rf_M) (y : Int32) (l0 : Option mV) : W_count ret (0, [l0, some (.inl y)], [], μ, 0, 0) = W_count ret (1, [l0, some (.inl y)], [.inl y], μ, 0, 0) := mm_W_eq rf_hk_mono _
theorem r_count_1 (ret : Option mV → rf_M → Prop) (μ : rf_M) (x0 : Int32) (ls : List (Option mV)) : W_count ret (1, ls, [.inl x0], μ, 0, 0) = (((x0.toInt < 0 ∨ 12 < x0.toInt) → W_count ret (143, ls, [], μ, 0, 0)) ∧ (x0.toInt = 0 → W_count ret (68, ls, [], μ, 0, 0)) ∧ (x0.toInt = 1 → W_count ret (73, ls, [], μ, 0, 0)) ∧ (x0.toInt = 2 → W_count ret (83, ls, [], μ, 0, 0)) ∧ (x0.toInt = 3 → W_count ret (88, ls, [], μ, 0, 0)) ∧ (x0.toInt = 4 → W_count ret (93, ls, [], μ, 0, 0)) ∧ (x0.toInt = 5 → W_count ret (98, ls, [], μ, 0, 0)) ∧ (x0.toInt = 6 → W_count ret (143, ls, [], μ, 0, 0)) ∧ (x0.toInt = 7 → W_count ret (143, ls, [], μ, 0, 0)) ∧ (x0.toInt = 8 → W_count ret (143, ls, [], μ, 0, 0)) ∧ (x0.toInt = 9 → W_count ret (143, ls, [], μ, 0, 0)) ∧ (x0.toInt = 10 → W_count ret (128, ls, [], μ, 0, 0)) ∧ (x0.toInt = 11 → W_count ret (133, ls, [], μ, 0, 0)) ∧ (x0.toInt = 12 → W_count ret (138, ls, [], μ, 0, 0)) ∧ True) := mm_W_eq rf_hk_mono _
set_option maxRecDepth 8000 in
theorem r_count_68 (ret : Option mV → rf_M → Prop) (μ : rf_M) (l1 : Option mV) : W_count ret (68, [some (.inr (some 39)), l1], [], μ, 0, 0) = W_count ret (69, [some (.inr (some 39)), l1], [.inr (some 39)], μ, 0, 0) := mm_W_eq rf_hk_mono _
set_option maxRecDepth 8000 in
theorem r_count_69 (ret : Option mV → rf_M → Prop) (μ : rf_M) (ls : List (Option mV)) : W_count ret (69, ls, [.inr (some 39)], μ, 0, 0) = (∃ Q0 : Int32 → rf_M → Prop, P_markHeld [.inr (some 39)] μ 0 0 (mI Q0) ∧ ∀ r s', Q0 r s' → W_count ret (72, ls, [.inl r], s', 0, 0)) := mm_W_eq rf_hk_mono _
set_option maxRecDepth 8000 in
theorem r_count_72 (ret : Option mV → rf_M → Prop) (μ : rf_M) (x0 : Int32) (ls : List (Option mV)) : W_count ret (72, ls, [.inl x0], μ, 0, 0) = ret (some (.inl x0)) μ := mm_W_eq rf_hk_mono _
set_option maxRecDepth 8000 in
theorem r_count_73 (ret : Option mV → rf_M → Prop) (μ : rf_M) (l1 : Option mV) : W_count ret (73, [some (.inr (some 39)), l1], [], μ, 0, 0) = W_count ret (74, [some (.inr (some 39)), l1], [.inr (some 39)], μ, 0, 0) := mm_W_eq rf_hk_mono _
set_option maxRecDepth 8000 in
theorem r_count_74 (ret : Option mV → rf_M → Prop) (μ : rf_M) (ls : List (Option mV)) : W_count ret (74, ls, [.inr (some 39)], μ, 0, 0) = (∃ Q0 : Int32 → rf_M → Prop, P_markHeld [.inr (some 39)] μ 0 0 (mI Q0) ∧ ∀ r s', Q0 r s' → W_count ret (77, ls, [.inl r], s', 0, 0)) := mm_W_eq rf_hk_mono _
set_option maxRecDepth 8000 in
theorem r_count_77 (ret : Option mV → rf_M → Prop) (μ : rf_M) (x0 : Int32) (ls : List (Option mV)) : W_count ret (77, ls, [.inl x0], μ, 0, 0) = W_count ret (78, ls, [], μ, 0, 0) := mm_W_eq rf_hk_mono _
set_option maxRecDepth 8000 in
theorem r_count_78 (ret : Option mV → rf_M → Prop) (μ : rf_M) (l1 : Option mV) : W_count ret (78, [some (.inr (some 39)), l1], [], μ, 0, 0) = W_count ret (79, [some (.inr (some 39)), l1], [.inr (some 39)], μ, 0, 0) := mm_W_eq rf_hk_mono _
set_option maxRecDepth 8000 in
theorem r_count_79 (ret : Option mV → rf_M → Prop) (μ : rf_M) (ls : List (Option mV)) : W_count ret (79, ls, [.inr (some 39)], μ, 0, 0) = (∃ Q0 : Int32 → rf_M → Prop, P_roomOfMarked [.inr (some 39)] μ 0 0 (mI Q0) ∧ ∀ r s', Q0 r s' → W_count ret (82, ls, [.inl r], s', 0, 0)) := mm_W_eq rf_hk_mono _
set_option maxRecDepth 8000 in
theorem r_count_82 (ret : Option mV → rf_M → Prop) (μ : rf_M) (x0 : Int32) (ls : List (Option mV)) : W_count ret (82, ls, [.inl x0], μ, 0, 0) = ret (some (.inl x0)) μ := mm_W_eq rf_hk_mono _
set_option maxRecDepth 8000 in
theorem r_count_83 (ret : Option mV → rf_M → Prop) (μ : rf_M) (l1 : Option mV) : W_count ret (83, [some (.inr (some 39)), l1], [], μ, 0, 0) = W_count ret (84, [some (.inr (some 39)), l1], [.inr (some 39)], μ, 0, 0) := mm_W_eq rf_hk_mono _
set_option maxRecDepth 8000 in
theorem r_count_84 (ret : Option mV → rf_M → Prop) (μ : rf_M) (ls : List (Option mV)) : W_count ret (84, ls, [.inr (some 39)], μ, 0, 0) = W_count ret (87, ls, [.inl (μ.1 14)], μ, 0, 0) := mm_W_eq rf_hk_mono _
set_option maxRecDepth 8000 in
theorem r_count_87 (ret : Option mV → rf_M → Prop) (μ : rf_M) (x0 : Int32) (ls : List (Option mV)) : W_count ret (87, ls, [.inl x0], μ, 0, 0) = ret (some (.inl x0)) μ := mm_W_eq rf_hk_mono _
set_option maxRecDepth 8000 in
theorem r_count_88 (ret : Option mV → rf_M → Prop) (μ : rf_M) (l1 : Option mV) : W_count ret (88, [some (.inr (some 39)), l1], [], μ, 0, 0) = W_count ret (89, [some (.inr (some 39)), l1], [.inr (some 39)], μ, 0, 0) := mm_W_eq rf_hk_mono _
set_option maxRecDepth 8000 in
theorem r_count_89 (ret : Option mV → rf_M → Prop) (μ : rf_M) (ls : List (Option mV)) : W_count ret (89, ls, [.inr (some 39)], μ, 0, 0) = W_count ret (92, ls, [.inl (μ.1 15)], μ, 0, 0) := mm_W_eq rf_hk_mono _
set_option maxRecDepth 8000 in
theorem r_count_92 (ret : Option mV → rf_M → Prop) (μ : rf_M) (x0 : Int32) (ls : List (Option mV)) : W_count ret (92, ls, [.inl x0], μ, 0, 0) = ret (some (.inl x0)) μ := mm_W_eq rf_hk_mono _
set_option maxRecDepth 8000 in
theorem r_count_93 (ret : Option mV → rf_M → Prop) (μ : rf_M) (l1 : Option mV) : W_count ret (93, [some (.inr (some 39)), l1], [], μ, 0, 0) = W_count ret (94, [some (.inr (some 39)), l1], [.inr (some 39)], μ, 0, 0) := mm_W_eq rf_hk_mono _
set_option maxRecDepth 8000 in
theorem r_count_94 (ret : Option mV → rf_M → Prop) (μ : rf_M) (ls : List (Option mV)) : W_count ret (94, ls, [.inr (some 39)], μ, 0, 0) = W_count ret (97, ls, [.inl (μ.1 17)], μ, 0, 0) := mm_W_eq rf_hk_mono _
set_option maxRecDepth 8000 in
theorem r_count_97 (ret : Option mV → rf_M → Prop) (μ : rf_M) (x0 : Int32) (ls : List (Option mV)) : W_count ret (97, ls, [.inl x0], μ, 0, 0) = ret (some (.inl x0)) μ := mm_W_eq rf_hk_mono _
set_option maxRecDepth 8000 in
theorem r_count_98 (ret : Option mV → rf_M → Prop) (μ : rf_M) (l1 : Option mV) : W_count ret (98, [some (.inr (some 39)), l1], [], μ, 0, 0) = W_count ret (99, [some (.inr (some 39)), l1], [.inr (some 39)], μ, 0, 0) := mm_W_eq rf_hk_mono _
set_option maxRecDepth 8000 in
theorem r_count_99 (ret : Option mV → rf_M → Prop) (μ : rf_M) (ls : List (Option mV)) : W_count ret (99, ls, [.inr (some 39)], μ, 0, 0) = W_count ret (102, ls, [.inr (some 11)], μ, 0, 0) := mm_W_eq rf_hk_mono _
set_option maxRecDepth 8000 in
theorem r_count_102 (ret : Option mV → rf_M → Prop) (μ : rf_M) (ls : List (Option mV)) : W_count ret (102, ls, [.inr (some 11)], μ, 0, 0) = W_count ret (103, ls, [.inl (nI 0), .inr (some 11)], μ, 0, 0) := mm_W_eq rf_hk_mono _
set_option maxRecDepth 8000 in
theorem r_count_103 (ret : Option mV → rf_M → Prop) (μ : rf_M) (x0 : Int32) (ls : List (Option mV)) : W_count ret (103, ls, [.inl x0, .inr (some 11)], μ, 0, 0) = (vp_in x0 2 ∧ W_count ret (104, ls, [.inl (μ.2 11 x0.toNatClampNeg)], μ, 0, 0)) := mm_W_eq rf_hk_mono _
set_option maxRecDepth 8000 in
theorem r_count_104 (ret : Option mV → rf_M → Prop) (μ : rf_M) (x0 : Int32) (ls : List (Option mV)) : W_count ret (104, ls, [.inl x0], μ, 0, 0) = ((x0 = 0 → W_count ret (111, ls, [], μ, 0, 0)) ∧ (¬ x0 = 0 → W_count ret (107, ls, [], μ, 0, 0))) := mm_W_eq rf_hk_mono _
set_option maxRecDepth 8000 in
theorem r_count_107 (ret : Option mV → rf_M → Prop) (μ : rf_M) (ls : List (Option mV)) : W_count ret (107, ls, [], μ, 0, 0) = W_count ret (108, ls, [.inl (nI 1)], μ, 0, 0) := mm_W_eq rf_hk_mono _
set_option maxRecDepth 8000 in
theorem r_count_108 (ret : Option mV → rf_M → Prop) (μ : rf_M) (x0 : Int32) (ls : List (Option mV)) : W_count ret (108, ls, [.inl x0], μ, 0, 0) = W_count ret (112, ls, [.inl x0], μ, 0, 0) := mm_W_eq rf_hk_mono _
set_option maxRecDepth 8000 in
theorem r_count_111 (ret : Option mV → rf_M → Prop) (μ : rf_M) (ls : List (Option mV)) : W_count ret (111, ls, [], μ, 0, 0) = W_count ret (112, ls, [.inl (nI 0)], μ, 0, 0) := mm_W_eq rf_hk_mono _
set_option maxRecDepth 8000 in
theorem r_count_112 (ret : Option mV → rf_M → Prop) (μ : rf_M) (x0 : Int32) (l1 : Option mV) : W_count ret (112, [some (.inr (some 39)), l1], [.inl x0], μ, 0, 0) = W_count ret (113, [some (.inr (some 39)), l1], [.inr (some 39), .inl x0], μ, 0, 0) := mm_W_eq rf_hk_mono _
set_option maxRecDepth 8000 in
theorem r_count_113 (ret : Option mV → rf_M → Prop) (μ : rf_M) (x1 : Int32) (ls : List (Option mV)) : W_count ret (113, ls, [.inr (some 39), .inl x1], μ, 0, 0) = W_count ret (116, ls, [.inr (some 11), .inl x1], μ, 0, 0) := mm_W_eq rf_hk_mono _
set_option maxRecDepth 8000 in
theorem r_count_116 (ret : Option mV → rf_M → Prop) (μ : rf_M) (x1 : Int32) (ls : List (Option mV)) : W_count ret (116, ls, [.inr (some 11), .inl x1], μ, 0, 0) = W_count ret (117, ls, [.inl (nI 1), .inr (some 11), .inl x1], μ, 0, 0) := mm_W_eq rf_hk_mono _
set_option maxRecDepth 8000 in
theorem r_count_117 (ret : Option mV → rf_M → Prop) (μ : rf_M) (x0 x2 : Int32) (ls : List (Option mV)) : W_count ret (117, ls, [.inl x0, .inr (some 11), .inl x2], μ, 0, 0) = (vp_in x0 2 ∧ W_count ret (118, ls, [.inl (μ.2 11 x0.toNatClampNeg), .inl x2], μ, 0, 0)) := mm_W_eq rf_hk_mono _
set_option maxRecDepth 8000 in
theorem r_count_118 (ret : Option mV → rf_M → Prop) (μ : rf_M) (x0 x1 : Int32) (ls : List (Option mV)) : W_count ret (118, ls, [.inl x0, .inl x1], μ, 0, 0) = ((x0 = 0 → W_count ret (125, ls, [.inl x1], μ, 0, 0)) ∧ (¬ x0 = 0 → W_count ret (121, ls, [.inl x1], μ, 0, 0))) := mm_W_eq rf_hk_mono _
set_option maxRecDepth 8000 in
theorem r_count_121 (ret : Option mV → rf_M → Prop) (μ : rf_M) (x0 : Int32) (ls : List (Option mV)) : W_count ret (121, ls, [.inl x0], μ, 0, 0) = W_count ret (122, ls, [.inl (nI 2), .inl x0], μ, 0, 0) := mm_W_eq rf_hk_mono _
set_option maxRecDepth 8000 in
theorem r_count_122 (ret : Option mV → rf_M → Prop) (μ : rf_M) (x0 x1 : Int32) (ls : List (Option mV)) : W_count ret (122, ls, [.inl x0, .inl x1], μ, 0, 0) = W_count ret (126, ls, [.inl x0, .inl x1], μ, 0, 0) := mm_W_eq rf_hk_mono _
set_option maxRecDepth 8000 in
theorem r_count_125 (ret : Option mV → rf_M → Prop) (μ : rf_M) (x0 : Int32) (ls : List (Option mV)) : W_count ret (125, ls, [.inl x0], μ, 0, 0) = W_count ret (126, ls, [.inl (nI 0), .inl x0], μ, 0, 0) := mm_W_eq rf_hk_mono _
set_option maxRecDepth 8000 in
theorem r_count_126 (ret : Option mV → rf_M → Prop) (μ : rf_M) (x0 x1 : Int32) (ls : List (Option mV)) : W_count ret (126, ls, [.inl x0, .inl x1], μ, 0, 0) = W_count ret (127, ls, [.inl (x1 + x0)], μ, 0, 0) := mm_W_eq rf_hk_mono _
set_option maxRecDepth 8000 in
theorem r_count_127 (ret : Option mV → rf_M → Prop) (μ : rf_M) (x0 : Int32) (ls : List (Option mV)) : W_count ret (127, ls, [.inl x0], μ, 0, 0) = ret (some (.inl x0)) μ := mm_W_eq rf_hk_mono _
set_option maxRecDepth 8000 in
theorem r_count_128 (ret : Option mV → rf_M → Prop) (μ : rf_M) (l1 : Option mV) : W_count ret (128, [some (.inr (some 39)), l1], [], μ, 0, 0) = W_count ret (129, [some (.inr (some 39)), l1], [.inr (some 39)], μ, 0, 0) := mm_W_eq rf_hk_mono _
set_option maxRecDepth 8000 in
theorem r_count_129 (ret : Option mV → rf_M → Prop) (μ : rf_M) (ls : List (Option mV)) : W_count ret (129, ls, [.inr (some 39)], μ, 0, 0) = W_count ret (132, ls, [.inl (μ.1 18)], μ, 0, 0) := mm_W_eq rf_hk_mono _
set_option maxRecDepth 8000 in
theorem r_count_132 (ret : Option mV → rf_M → Prop) (μ : rf_M) (x0 : Int32) (ls : List (Option mV)) : W_count ret (132, ls, [.inl x0], μ, 0, 0) = ret (some (.inl x0)) μ := mm_W_eq rf_hk_mono _
set_option maxRecDepth 8000 in
theorem r_count_133 (ret : Option mV → rf_M → Prop) (μ : rf_M) (l1 : Option mV) : W_count ret (133, [some (.inr (some 39)), l1], [], μ, 0, 0) = W_count ret (134, [some (.inr (some 39)), l1], [.inr (some 39)], μ, 0, 0) := mm_W_eq rf_hk_mono _
set_option maxRecDepth 8000 in
theorem r_count_134 (ret : Option mV → rf_M → Prop) (μ : rf_M) (ls : List (Option mV)) : W_count ret (134, ls, [.inr (some 39)], μ, 0, 0) = W_count ret (137, ls, [.inl (μ.1 19)], μ, 0, 0) := mm_W_eq rf_hk_mono _
set_option maxRecDepth 8000 in
theorem r_count_137 (ret : Option mV → rf_M → Prop) (μ : rf_M) (x0 : Int32) (ls : List (Option mV)) : W_count ret (137, ls, [.inl x0], μ, 0, 0) = ret (some (.inl x0)) μ := mm_W_eq rf_hk_mono _
set_option maxRecDepth 8000 in
theorem r_count_138 (ret : Option mV → rf_M → Prop) (μ : rf_M) (l1 : Option mV) : W_count ret (138, [some (.inr (some 39)), l1], [], μ, 0, 0) = W_count ret (139, [some (.inr (some 39)), l1], [.inr (some 39)], μ, 0, 0) := mm_W_eq rf_hk_mono _
set_option maxRecDepth 8000 in
theorem r_count_139 (ret : Option mV → rf_M → Prop) (μ : rf_M) (ls : List (Option mV)) : W_count ret (139, ls, [.inr (some 39)], μ, 0, 0) = W_count ret (142, ls, [.inl (μ.1 20)], μ, 0, 0) := mm_W_eq rf_hk_mono _
set_option maxRecDepth 8000 in
theorem r_count_142 (ret : Option mV → rf_M → Prop) (μ : rf_M) (x0 : Int32) (ls : List (Option mV)) : W_count ret (142, ls, [.inl x0], μ, 0, 0) = ret (some (.inl x0)) μ := mm_W_eq rf_hk_mono _
set_option maxRecDepth 8000 in
theorem r_count_143 (ret : Option mV → rf_M → Prop) (μ : rf_M) (ls : List (Option mV)) : W_count ret (143, ls, [], μ, 0, 0) = W_count ret (145, ls, [.inl (Int32.ofInt (-2))], μ, 0, 0) := mm_W_eq rf_hk_mono _
set_option maxRecDepth 8000 in
theorem r_count_145 (ret : Option mV → rf_M → Prop) (μ : rf_M) (x0 : Int32) (ls : List (Option mV)) : W_count ret (145, ls, [.inl x0], μ, 0, 0) = ret (some (.inl x0)) μ := mm_W_eq rf_hk_mono _
theorem e_count (a0 : Int32) (μ : rf_M) (ret : Option mV → rf_M → Prop) (h : W_count ret (0, [some (.inr (some 39)), some (.inl a0)], [], μ, 0, 0)) : P_count [.inr (some 39), .inl a0] μ 0 0 ret := ⟨rfl, Nat.le_of_ble_eq_true rfl, h⟩
theorem so_count (l : Launch) (D : va_G) (cs sa ad : Nat → Nat) (A : Nat → Prop) : mm_So l (rf_W D cs ad A) (kk D cs sa A) ad A yX7_count cX7_count 2 (some .int) 2 P_count := rf_So (rf_sound (by decide) (by decide +kernel) rfl (fun p e mc ms s0 m args below meth c F hK hA => List.forall_mem_cons.mpr ⟨mm_CSV F hK (kk_KW D cs sa A) hA (so_markHeld l D cs sa ad A) (by decide) (by decide) wd_880 wd_882 wd_47 wd_56 wd_883 ⟨rfl, by decide, by decide, rfl⟩ (rf_recv hK), List.forall_mem_cons.mpr ⟨mm_CSV F hK (kk_KW D cs sa A) hA (so_roomOfMarked l D cs sa ad A) (by decide) (by decide) wd_832 wd_834 wd_39 wd_56 wd_835 ⟨rfl, by decide, by decide, rfl⟩ (rf_recv hK), fun _ h => absurd h List.not_mem_nil⟩⟩))
/-! joined -/
def cd_joined : mC := [(0, .aload_n 0, 1), (1, .getfield 19, 3), (4, .iload_n 2, 1), (5, .iaload, 1), (6, .ifCond .ne 5, 3), (9, .iload_n 1, 1), (10, .ireturn, 1), (11, .aload_n 0, 1), (12, .getfield 19, 3), (15, .iload_n 1, 1), (16, .iaload, 1), (17, .ifCond .ne 5, 3), (20, .iload_n 2, 1), (21, .ireturn, 1), (22, .aload_n 0, 1), (23, .getfield 19, 3), (26, .iload_n 1, 1), (27, .iaload, 1), (28, .aload_n 0, 1), (29, .getfield 19, 3), (32, .iload_n 2, 1), (33, .iaload, 1), (34, .iadd, 1), (35, .aload_n 0, 1), (36, .getfield 52, 3), (39, .if_icmp .gt 23, 3), (42, .aload_n 0, 1), (43, .iload_n 1, 1), (44, .iconst 0, 1), (45, .invokevirtual 154, 3), (48, .istore_n 3, 1), (49, .aload_n 0, 1), (50, .iload_n 3, 1), (51, .aload_n 0, 1), (52, .iload_n 2, 1), (53, .iload_n 3, 1), (54, .invokevirtual 154, 3), (57, .iadd, 1), (58, .invokevirtual 100, 3), (61, .ireturn, 1), (62, .aload_n 0, 1), (63, .iload_n 1, 1), (64, .iload_n 2, 1), (65, .invokevirtual 151, 3), (68, .istore_n 3, 1), (69, .aload_n 0, 1), (70, .iload_n 3, 1), (71, .invokevirtual 138, 3), (74, .aload_n 0, 1), (75, .getfield 55, 3), (78, .if_icmp .le 10, 3), (81, .aload_n 0, 1), (82, .invokevirtual 157, 3), (85, .goto 4, 3), (88, .iload_n 3, 1), (89, .ireturn, 1)]
def sp_joined : mQ rf_M := [((0, 154), 3, 1, P_layText), ((0, 100), 2, 1, P_newLeaf), ((0, 151), 3, 1, P_newJoin), ((0, 138), 2, 1, P_layPieces), ((0, 157), 1, 1, P_balanced)]
def W_joined (ret : Option mV → rf_M → Prop) : mX rf_M → Prop := mm_W 1 cd_joined rf_hk sp_joined ret
def P_joined : mP rf_M := rf_P (mm_Pm 1 cd_joined rf_hk sp_joined 4)
theorem r_joined_0 (ret : Option mV → rf_M → Prop) (μ : rf_M) (l1 l2 l3 : Option mV) : W_joined ret (0, [some (.inr (some 39)), l1, l2, l3], [], μ, 0, 0) = W_joined ret (1, [some (.inr (some 39)), l1, l2, l3], [.inr (some 39)], μ, 0, 0) := mm_W_eq rf_hk_mono _
theorem r_joined_1 (ret : Option mV → rf_M → Prop) (μ : rf_M) (ls : List (Option mV)) : W_joined ret (1, ls, [.inr (some 39)], μ, 0, 0) = W_joined ret (4, ls, [.inr (some 3)], μ, 0, 0) := mm_W_eq rf_hk_mono _
theorem r_joined_4 (ret : Option mV → rf_M → Prop) (μ : rf_M) (y : Int32) (l0 l1 l3 : Option mV) : W_joined ret (4, [l0, l1, some (.inl y), l3], [.inr (some 3)], μ, 0, 0) = W_joined ret (5, [l0, l1, some (.inl y), l3], [.inl y, .inr (some 3)], μ, 0, 0) := mm_W_eq rf_hk_mono _
theorem r_joined_5 (ret : Option mV → rf_M → Prop) (μ : rf_M) (x0 : Int32) (ls : List (Option mV)) : W_joined ret (5, ls, [.inl x0, .inr (some 3)], μ, 0, 0) = (vp_in x0 20480 ∧ W_joined ret (6, ls, [.inl (μ.2 3 x0.toNatClampNeg)], μ, 0, 0)) := mm_W_eq rf_hk_mono _
theorem r_joined_6 (ret : Option mV → rf_M → Prop) (μ : rf_M) (x0 : Int32) (ls : List (Option mV)) : W_joined ret (6, ls, [.inl x0], μ, 0, 0) = ((¬ x0 = 0 → W_joined ret (11, ls, [], μ, 0, 0)) ∧ (¬ (¬ x0 = 0) → W_joined ret (9, ls, [], μ, 0, 0))) := mm_W_eq rf_hk_mono _
theorem r_joined_9 (ret : Option mV → rf_M → Prop) (μ : rf_M) (y : Int32) (l0 l2 l3 : Option mV) : W_joined ret (9, [l0, some (.inl y), l2, l3], [], μ, 0, 0) = W_joined ret (10, [l0, some (.inl y), l2, l3], [.inl y], μ, 0, 0) := mm_W_eq rf_hk_mono _
theorem r_joined_10 (ret : Option mV → rf_M → Prop) (μ : rf_M) (x0 : Int32) (ls : List (Option mV)) : W_joined ret (10, ls, [.inl x0], μ, 0, 0) = ret (some (.inl x0)) μ := mm_W_eq rf_hk_mono _
theorem r_joined_11 (ret : Option mV → rf_M → Prop) (μ : rf_M) (l1 l2 l3 : Option mV) : W_joined ret (11, [some (.inr (some 39)), l1, l2, l3], [], μ, 0, 0) = W_joined ret (12, [some (.inr (some 39)), l1, l2, l3], [.inr (some 39)], μ, 0, 0) := mm_W_eq rf_hk_mono _
theorem r_joined_12 (ret : Option mV → rf_M → Prop) (μ : rf_M) (ls : List (Option mV)) : W_joined ret (12, ls, [.inr (some 39)], μ, 0, 0) = W_joined ret (15, ls, [.inr (some 3)], μ, 0, 0) := mm_W_eq rf_hk_mono _
theorem r_joined_15 (ret : Option mV → rf_M → Prop) (μ : rf_M) (y : Int32) (l0 l2 l3 : Option mV) : W_joined ret (15, [l0, some (.inl y), l2, l3], [.inr (some 3)], μ, 0, 0) = W_joined ret (16, [l0, some (.inl y), l2, l3], [.inl y, .inr (some 3)], μ, 0, 0) := mm_W_eq rf_hk_mono _
theorem r_joined_16 (ret : Option mV → rf_M → Prop) (μ : rf_M) (x0 : Int32) (ls : List (Option mV)) : W_joined ret (16, ls, [.inl x0, .inr (some 3)], μ, 0, 0) = (vp_in x0 20480 ∧ W_joined ret (17, ls, [.inl (μ.2 3 x0.toNatClampNeg)], μ, 0, 0)) := mm_W_eq rf_hk_mono _
theorem r_joined_17 (ret : Option mV → rf_M → Prop) (μ : rf_M) (x0 : Int32) (ls : List (Option mV)) : W_joined ret (17, ls, [.inl x0], μ, 0, 0) = ((¬ x0 = 0 → W_joined ret (22, ls, [], μ, 0, 0)) ∧ (¬ (¬ x0 = 0) → W_joined ret (20, ls, [], μ, 0, 0))) := mm_W_eq rf_hk_mono _
theorem r_joined_20 (ret : Option mV → rf_M → Prop) (μ : rf_M) (y : Int32) (l0 l1 l3 : Option mV) : W_joined ret (20, [l0, l1, some (.inl y), l3], [], μ, 0, 0) = W_joined ret (21, [l0, l1, some (.inl y), l3], [.inl y], μ, 0, 0) := mm_W_eq rf_hk_mono _
theorem r_joined_21 (ret : Option mV → rf_M → Prop) (μ : rf_M) (x0 : Int32) (ls : List (Option mV)) : W_joined ret (21, ls, [.inl x0], μ, 0, 0) = ret (some (.inl x0)) μ := mm_W_eq rf_hk_mono _
theorem r_joined_22 (ret : Option mV → rf_M → Prop) (μ : rf_M) (l1 l2 l3 : Option mV) : W_joined ret (22, [some (.inr (some 39)), l1, l2, l3], [], μ, 0, 0) = W_joined ret (23, [some (.inr (some 39)), l1, l2, l3], [.inr (some 39)], μ, 0, 0) := mm_W_eq rf_hk_mono _
theorem r_joined_23 (ret : Option mV → rf_M → Prop) (μ : rf_M) (ls : List (Option mV)) : W_joined ret (23, ls, [.inr (some 39)], μ, 0, 0) = W_joined ret (26, ls, [.inr (some 3)], μ, 0, 0) := mm_W_eq rf_hk_mono _
theorem r_joined_26 (ret : Option mV → rf_M → Prop) (μ : rf_M) (y : Int32) (l0 l2 l3 : Option mV) : W_joined ret (26, [l0, some (.inl y), l2, l3], [.inr (some 3)], μ, 0, 0) = W_joined ret (27, [l0, some (.inl y), l2, l3], [.inl y, .inr (some 3)], μ, 0, 0) := mm_W_eq rf_hk_mono _
theorem r_joined_27 (ret : Option mV → rf_M → Prop) (μ : rf_M) (x0 : Int32) (ls : List (Option mV)) : W_joined ret (27, ls, [.inl x0, .inr (some 3)], μ, 0, 0) = (vp_in x0 20480 ∧ W_joined ret (28, ls, [.inl (μ.2 3 x0.toNatClampNeg)], μ, 0, 0)) := mm_W_eq rf_hk_mono _
theorem r_joined_28 (ret : Option mV → rf_M → Prop) (μ : rf_M) (x0 : Int32) (l1 l2 l3 : Option mV) : W_joined ret (28, [some (.inr (some 39)), l1, l2, l3], [.inl x0], μ, 0, 0) = W_joined ret (29, [some (.inr (some 39)), l1, l2, l3], [.inr (some 39), .inl x0], μ, 0, 0) := mm_W_eq rf_hk_mono _
theorem r_joined_29 (ret : Option mV → rf_M → Prop) (μ : rf_M) (x1 : Int32) (ls : List (Option mV)) : W_joined ret (29, ls, [.inr (some 39), .inl x1], μ, 0, 0) = W_joined ret (32, ls, [.inr (some 3), .inl x1], μ, 0, 0) := mm_W_eq rf_hk_mono _
theorem r_joined_32 (ret : Option mV → rf_M → Prop) (μ : rf_M) (x1 y : Int32) (l0 l1 l3 : Option mV) : W_joined ret (32, [l0, l1, some (.inl y), l3], [.inr (some 3), .inl x1], μ, 0, 0) = W_joined ret (33, [l0, l1, some (.inl y), l3], [.inl y, .inr (some 3), .inl x1], μ, 0, 0) := mm_W_eq rf_hk_mono _
theorem r_joined_33 (ret : Option mV → rf_M → Prop) (μ : rf_M) (x0 x2 : Int32) (ls : List (Option mV)) : W_joined ret (33, ls, [.inl x0, .inr (some 3), .inl x2], μ, 0, 0) = (vp_in x0 20480 ∧ W_joined ret (34, ls, [.inl (μ.2 3 x0.toNatClampNeg), .inl x2], μ, 0, 0)) := mm_W_eq rf_hk_mono _
theorem r_joined_34 (ret : Option mV → rf_M → Prop) (μ : rf_M) (x0 x1 : Int32) (ls : List (Option mV)) : W_joined ret (34, ls, [.inl x0, .inl x1], μ, 0, 0) = W_joined ret (35, ls, [.inl (x1 + x0)], μ, 0, 0) := mm_W_eq rf_hk_mono _
theorem r_joined_35 (ret : Option mV → rf_M → Prop) (μ : rf_M) (x0 : Int32) (l1 l2 l3 : Option mV) : W_joined ret (35, [some (.inr (some 39)), l1, l2, l3], [.inl x0], μ, 0, 0) = W_joined ret (36, [some (.inr (some 39)), l1, l2, l3], [.inr (some 39), .inl x0], μ, 0, 0) := mm_W_eq rf_hk_mono _
theorem r_joined_36 (ret : Option mV → rf_M → Prop) (μ : rf_M) (x1 : Int32) (ls : List (Option mV)) : W_joined ret (36, ls, [.inr (some 39), .inl x1], μ, 0, 0) = W_joined ret (39, ls, [.inl (μ.1 18), .inl x1], μ, 0, 0) := mm_W_eq rf_hk_mono _
theorem r_joined_39 (ret : Option mV → rf_M → Prop) (μ : rf_M) (x0 x1 : Int32) (ls : List (Option mV)) : W_joined ret (39, ls, [.inl x0, .inl x1], μ, 0, 0) = ((x0 < x1 → W_joined ret (62, ls, [], μ, 0, 0)) ∧ (¬ x0 < x1 → W_joined ret (42, ls, [], μ, 0, 0))) := mm_W_eq rf_hk_mono _
theorem r_joined_42 (ret : Option mV → rf_M → Prop) (μ : rf_M) (l1 l2 l3 : Option mV) : W_joined ret (42, [some (.inr (some 39)), l1, l2, l3], [], μ, 0, 0) = W_joined ret (43, [some (.inr (some 39)), l1, l2, l3], [.inr (some 39)], μ, 0, 0) := mm_W_eq rf_hk_mono _
theorem r_joined_43 (ret : Option mV → rf_M → Prop) (μ : rf_M) (y : Int32) (l0 l2 l3 : Option mV) : W_joined ret (43, [l0, some (.inl y), l2, l3], [.inr (some 39)], μ, 0, 0) = W_joined ret (44, [l0, some (.inl y), l2, l3], [.inl y, .inr (some 39)], μ, 0, 0) := mm_W_eq rf_hk_mono _
theorem r_joined_44 (ret : Option mV → rf_M → Prop) (μ : rf_M) (x0 : Int32) (ls : List (Option mV)) : W_joined ret (44, ls, [.inl x0, .inr (some 39)], μ, 0, 0) = W_joined ret (45, ls, [.inl (nI 0), .inl x0, .inr (some 39)], μ, 0, 0) := mm_W_eq rf_hk_mono _
theorem r_joined_45 (ret : Option mV → rf_M → Prop) (μ : rf_M) (x0 x1 : Int32) (ls : List (Option mV)) : W_joined ret (45, ls, [.inl x0, .inl x1, .inr (some 39)], μ, 0, 0) = (∃ Q0 : Int32 → rf_M → Prop, P_layText [.inr (some 39), .inl x1, .inl x0] μ 0 0 (mI Q0) ∧ ∀ r s', Q0 r s' → W_joined ret (48, ls, [.inl r], s', 0, 0)) := mm_W_eq rf_hk_mono _
theorem r_joined_48 (ret : Option mV → rf_M → Prop) (μ : rf_M) (x0 : Int32) (l0 l1 l2 l3 : Option mV) : W_joined ret (48, [l0, l1, l2, l3], [.inl x0], μ, 0, 0) = W_joined ret (49, [l0, l1, l2, some (.inl x0)], [], μ, 0, 0) := mm_W_eq rf_hk_mono _
theorem r_joined_49 (ret : Option mV → rf_M → Prop) (μ : rf_M) (l1 l2 l3 : Option mV) : W_joined ret (49, [some (.inr (some 39)), l1, l2, l3], [], μ, 0, 0) = W_joined ret (50, [some (.inr (some 39)), l1, l2, l3], [.inr (some 39)], μ, 0, 0) := mm_W_eq rf_hk_mono _
theorem r_joined_50 (ret : Option mV → rf_M → Prop) (μ : rf_M) (y : Int32) (l0 l1 l2 : Option mV) : W_joined ret (50, [l0, l1, l2, some (.inl y)], [.inr (some 39)], μ, 0, 0) = W_joined ret (51, [l0, l1, l2, some (.inl y)], [.inl y, .inr (some 39)], μ, 0, 0) := mm_W_eq rf_hk_mono _
theorem r_joined_51 (ret : Option mV → rf_M → Prop) (μ : rf_M) (x0 : Int32) (l1 l2 l3 : Option mV) : W_joined ret (51, [some (.inr (some 39)), l1, l2, l3], [.inl x0, .inr (some 39)], μ, 0, 0) = W_joined ret (52, [some (.inr (some 39)), l1, l2, l3], [.inr (some 39), .inl x0, .inr (some 39)], μ, 0, 0) := mm_W_eq rf_hk_mono _
theorem r_joined_52 (ret : Option mV → rf_M → Prop) (μ : rf_M) (x1 y : Int32) (l0 l1 l3 : Option mV) : W_joined ret (52, [l0, l1, some (.inl y), l3], [.inr (some 39), .inl x1, .inr (some 39)], μ, 0, 0) = W_joined ret (53, [l0, l1, some (.inl y), l3], [.inl y, .inr (some 39), .inl x1, .inr (some 39)], μ, 0, 0) := mm_W_eq rf_hk_mono _
theorem r_joined_53 (ret : Option mV → rf_M → Prop) (μ : rf_M) (x0 x2 y : Int32) (l0 l1 l2 : Option mV) : W_joined ret (53, [l0, l1, l2, some (.inl y)], [.inl x0, .inr (some 39), .inl x2, .inr (some 39)], μ, 0, 0) = W_joined ret (54, [l0, l1, l2, some (.inl y)], [.inl y, .inl x0, .inr (some 39), .inl x2, .inr (some 39)], μ, 0, 0) := mm_W_eq rf_hk_mono _
theorem r_joined_54 (ret : Option mV → rf_M → Prop) (μ : rf_M) (x0 x1 x3 : Int32) (ls : List (Option mV)) : W_joined ret (54, ls, [.inl x0, .inl x1, .inr (some 39), .inl x3, .inr (some 39)], μ, 0, 0) = (∃ Q0 : Int32 → rf_M → Prop, P_layText [.inr (some 39), .inl x1, .inl x0] μ 0 0 (mI Q0) ∧ ∀ r s', Q0 r s' → W_joined ret (57, ls, [.inl r, .inl x3, .inr (some 39)], s', 0, 0)) := mm_W_eq rf_hk_mono _
theorem r_joined_57 (ret : Option mV → rf_M → Prop) (μ : rf_M) (x0 x1 : Int32) (ls : List (Option mV)) : W_joined ret (57, ls, [.inl x0, .inl x1, .inr (some 39)], μ, 0, 0) = W_joined ret (58, ls, [.inl (x1 + x0), .inr (some 39)], μ, 0, 0) := mm_W_eq rf_hk_mono _
theorem r_joined_58 (ret : Option mV → rf_M → Prop) (μ : rf_M) (x0 : Int32) (ls : List (Option mV)) : W_joined ret (58, ls, [.inl x0, .inr (some 39)], μ, 0, 0) = (∃ Q0 : Int32 → rf_M → Prop, P_newLeaf [.inr (some 39), .inl x0] μ 0 0 (mI Q0) ∧ ∀ r s', Q0 r s' → W_joined ret (61, ls, [.inl r], s', 0, 0)) := mm_W_eq rf_hk_mono _
set_option maxRecDepth 8000 in
theorem r_joined_61 (ret : Option mV → rf_M → Prop) (μ : rf_M) (x0 : Int32) (ls : List (Option mV)) : W_joined ret (61, ls, [.inl x0], μ, 0, 0) = ret (some (.inl x0)) μ := mm_W_eq rf_hk_mono _
set_option maxRecDepth 8000 in
theorem r_joined_62 (ret : Option mV → rf_M → Prop) (μ : rf_M) (l1 l2 l3 : Option mV) : W_joined ret (62, [some (.inr (some 39)), l1, l2, l3], [], μ, 0, 0) = W_joined ret (63, [some (.inr (some 39)), l1, l2, l3], [.inr (some 39)], μ, 0, 0) := mm_W_eq rf_hk_mono _
set_option maxRecDepth 8000 in
theorem r_joined_63 (ret : Option mV → rf_M → Prop) (μ : rf_M) (y : Int32) (l0 l2 l3 : Option mV) : W_joined ret (63, [l0, some (.inl y), l2, l3], [.inr (some 39)], μ, 0, 0) = W_joined ret (64, [l0, some (.inl y), l2, l3], [.inl y, .inr (some 39)], μ, 0, 0) := mm_W_eq rf_hk_mono _
set_option maxRecDepth 8000 in
theorem r_joined_64 (ret : Option mV → rf_M → Prop) (μ : rf_M) (x0 y : Int32) (l0 l1 l3 : Option mV) : W_joined ret (64, [l0, l1, some (.inl y), l3], [.inl x0, .inr (some 39)], μ, 0, 0) = W_joined ret (65, [l0, l1, some (.inl y), l3], [.inl y, .inl x0, .inr (some 39)], μ, 0, 0) := mm_W_eq rf_hk_mono _
set_option maxRecDepth 8000 in
theorem r_joined_65 (ret : Option mV → rf_M → Prop) (μ : rf_M) (x0 x1 : Int32) (ls : List (Option mV)) : W_joined ret (65, ls, [.inl x0, .inl x1, .inr (some 39)], μ, 0, 0) = (∃ Q0 : Int32 → rf_M → Prop, P_newJoin [.inr (some 39), .inl x1, .inl x0] μ 0 0 (mI Q0) ∧ ∀ r s', Q0 r s' → W_joined ret (68, ls, [.inl r], s', 0, 0)) := mm_W_eq rf_hk_mono _
set_option maxRecDepth 8000 in
theorem r_joined_68 (ret : Option mV → rf_M → Prop) (μ : rf_M) (x0 : Int32) (l0 l1 l2 l3 : Option mV) : W_joined ret (68, [l0, l1, l2, l3], [.inl x0], μ, 0, 0) = W_joined ret (69, [l0, l1, l2, some (.inl x0)], [], μ, 0, 0) := mm_W_eq rf_hk_mono _
set_option maxRecDepth 8000 in
theorem r_joined_69 (ret : Option mV → rf_M → Prop) (μ : rf_M) (l1 l2 l3 : Option mV) : W_joined ret (69, [some (.inr (some 39)), l1, l2, l3], [], μ, 0, 0) = W_joined ret (70, [some (.inr (some 39)), l1, l2, l3], [.inr (some 39)], μ, 0, 0) := mm_W_eq rf_hk_mono _
set_option maxRecDepth 8000 in
theorem r_joined_70 (ret : Option mV → rf_M → Prop) (μ : rf_M) (y : Int32) (l0 l1 l2 : Option mV) : W_joined ret (70, [l0, l1, l2, some (.inl y)], [.inr (some 39)], μ, 0, 0) = W_joined ret (71, [l0, l1, l2, some (.inl y)], [.inl y, .inr (some 39)], μ, 0, 0) := mm_W_eq rf_hk_mono _
set_option maxRecDepth 8000 in
theorem r_joined_71 (ret : Option mV → rf_M → Prop) (μ : rf_M) (x0 : Int32) (ls : List (Option mV)) : W_joined ret (71, ls, [.inl x0, .inr (some 39)], μ, 0, 0) = (∃ Q0 : Int32 → rf_M → Prop, P_layPieces [.inr (some 39), .inl x0] μ 0 0 (mI Q0) ∧ ∀ r s', Q0 r s' → W_joined ret (74, ls, [.inl r], s', 0, 0)) := mm_W_eq rf_hk_mono _
set_option maxRecDepth 8000 in
theorem r_joined_74 (ret : Option mV → rf_M → Prop) (μ : rf_M) (x0 : Int32) (l1 l2 l3 : Option mV) : W_joined ret (74, [some (.inr (some 39)), l1, l2, l3], [.inl x0], μ, 0, 0) = W_joined ret (75, [some (.inr (some 39)), l1, l2, l3], [.inr (some 39), .inl x0], μ, 0, 0) := mm_W_eq rf_hk_mono _
set_option maxRecDepth 8000 in
theorem r_joined_75 (ret : Option mV → rf_M → Prop) (μ : rf_M) (x1 : Int32) (ls : List (Option mV)) : W_joined ret (75, ls, [.inr (some 39), .inl x1], μ, 0, 0) = W_joined ret (78, ls, [.inl (μ.1 19), .inl x1], μ, 0, 0) := mm_W_eq rf_hk_mono _
set_option maxRecDepth 8000 in
theorem r_joined_78 (ret : Option mV → rf_M → Prop) (μ : rf_M) (x0 x1 : Int32) (ls : List (Option mV)) : W_joined ret (78, ls, [.inl x0, .inl x1], μ, 0, 0) = ((x1 ≤ x0 → W_joined ret (88, ls, [], μ, 0, 0)) ∧ (¬ x1 ≤ x0 → W_joined ret (81, ls, [], μ, 0, 0))) := mm_W_eq rf_hk_mono _
set_option maxRecDepth 8000 in
theorem r_joined_81 (ret : Option mV → rf_M → Prop) (μ : rf_M) (l1 l2 l3 : Option mV) : W_joined ret (81, [some (.inr (some 39)), l1, l2, l3], [], μ, 0, 0) = W_joined ret (82, [some (.inr (some 39)), l1, l2, l3], [.inr (some 39)], μ, 0, 0) := mm_W_eq rf_hk_mono _
set_option maxRecDepth 8000 in
theorem r_joined_82 (ret : Option mV → rf_M → Prop) (μ : rf_M) (ls : List (Option mV)) : W_joined ret (82, ls, [.inr (some 39)], μ, 0, 0) = (∃ Q0 : Int32 → rf_M → Prop, P_balanced [.inr (some 39)] μ 0 0 (mI Q0) ∧ ∀ r s', Q0 r s' → W_joined ret (85, ls, [.inl r], s', 0, 0)) := mm_W_eq rf_hk_mono _
set_option maxRecDepth 8000 in
theorem r_joined_85 (ret : Option mV → rf_M → Prop) (μ : rf_M) (x0 : Int32) (ls : List (Option mV)) : W_joined ret (85, ls, [.inl x0], μ, 0, 0) = W_joined ret (89, ls, [.inl x0], μ, 0, 0) := mm_W_eq rf_hk_mono _
set_option maxRecDepth 8000 in
theorem r_joined_88 (ret : Option mV → rf_M → Prop) (μ : rf_M) (y : Int32) (l0 l1 l2 : Option mV) : W_joined ret (88, [l0, l1, l2, some (.inl y)], [], μ, 0, 0) = W_joined ret (89, [l0, l1, l2, some (.inl y)], [.inl y], μ, 0, 0) := mm_W_eq rf_hk_mono _
set_option maxRecDepth 8000 in
theorem r_joined_89 (ret : Option mV → rf_M → Prop) (μ : rf_M) (x0 : Int32) (ls : List (Option mV)) : W_joined ret (89, ls, [.inl x0], μ, 0, 0) = ret (some (.inl x0)) μ := mm_W_eq rf_hk_mono _
theorem e_joined (a0 a1 : Int32) (μ : rf_M) (ret : Option mV → rf_M → Prop) (h : W_joined ret (0, [some (.inr (some 39)), some (.inl a0), some (.inl a1), none], [], μ, 0, 0)) : P_joined [.inr (some 39), .inl a0, .inl a1] μ 0 0 ret := ⟨rfl, Nat.le_of_ble_eq_true rfl, h⟩
theorem so_joined (l : Launch) (D : va_G) (cs sa ad : Nat → Nat) (A : Nat → Prop) : mm_So l (rf_W D cs ad A) (kk D cs sa A) ad A yX7_joined cX7_joined 4 (some .int) 3 P_joined := rf_So (rf_sound (by decide) (by decide +kernel) rfl (fun p e mc ms s0 m args below meth c F hK hA => List.forall_mem_cons.mpr ⟨mm_CSV F hK (kk_KW D cs sa A) hA (so_layText l D cs sa ad A) (by decide) (by decide) wd_772 wd_774 wd_29 wd_56 wd_775 ⟨rfl, by decide, by decide, rfl⟩ (rf_recv hK), List.forall_mem_cons.mpr ⟨mm_CSV F hK (kk_KW D cs sa A) hA (so_newLeaf l D cs sa ad A) (by decide) (by decide) wd_594 wd_596 wd_21 wd_56 wd_597 ⟨rfl, by decide, by decide, rfl⟩ (rf_recv hK), List.forall_mem_cons.mpr ⟨mm_CSV F hK (kk_KW D cs sa A) hA (so_newJoin l D cs sa ad A) (by decide) (by decide) wd_784 wd_786 wd_32 wd_56 wd_787 ⟨rfl, by decide, by decide, rfl⟩ (rf_recv hK), List.forall_mem_cons.mpr ⟨mm_CSV F hK (kk_KW D cs sa A) hA (so_layPieces l D cs sa ad A) (by decide) (by decide) wd_776 wd_778 wd_30 wd_56 wd_779 ⟨rfl, by decide, by decide, rfl⟩ (rf_recv hK), List.forall_mem_cons.mpr ⟨mm_CSV F hK (kk_KW D cs sa A) hA (so_balanced l D cs sa ad A) (by decide) (by decide) wd_788 wd_790 wd_33 wd_56 wd_791 ⟨rfl, by decide, by decide, rfl⟩ (rf_recv hK), fun _ h => absurd h List.not_mem_nil⟩⟩⟩⟩⟩))
/-! cutOne -/
def cd_cutOne : mC := [(0, .iload_n 3, 1), (1, .ifCond .ne 20, 3), (4, .aload_n 0, 1), (5, .getfield 97, 3), (8, .iload 4, 2), (10, .aload_n 0, 1), (11, .iconst 0, 1), (12, .invokevirtual 100, 3), (15, .iastore, 1), (16, .iload 4, 2), (18, .iconst 1, 1), (19, .iadd, 1), (20, .ireturn, 1), (21, .iload_n 3, 1), (22, .aload_n 0, 1), (23, .getfield 19, 3), (26, .iload_n 1, 1), (27, .iaload, 1), (28, .if_icmp .ne 16, 3), (31, .aload_n 0, 1), (32, .getfield 97, 3), (35, .iload 4, 2), (37, .iload_n 1, 1), (38, .iastore, 1), (39, .iload 4, 2), (41, .iconst 1, 1), (42, .iadd, 1), (43, .ireturn, 1), (44, .aload_n 0, 1), (45, .getfield 7, 3), (48, .iload_n 1, 1), (49, .iaload, 1), (50, .iconst 2, 1), (51, .if_icmp .eq 54, 3), (54, .aload_n 0, 1), (55, .getfield 97, 3), (58, .iload 4, 2), (60, .aload_n 0, 1), (61, .getfield 7, 3), (64, .iload_n 1, 1), (65, .iaload, 1), (66, .iconst 1, 1), (67, .if_icmp .ne 13, 3), (70, .aload_n 0, 1), (71, .iload_n 1, 1), (72, .iload_n 2, 1), (73, .iload_n 3, 1), (74, .invokevirtual 164, 3), (77, .goto 22, 3), (80, .aload_n 0, 1), (81, .aload_n 0, 1), (82, .getfield 13, 3), (85, .iload_n 1, 1), (86, .iaload, 1), (87, .aload_n 0, 1), (88, .getfield 16, 3), (91, .iload_n 1, 1), (92, .iaload, 1), (93, .iload_n 2, 1), (94, .iadd, 1), (95, .iload_n 3, 1), (96, .invokevirtual 164, 3), (99, .iastore, 1), (100, .iload 4, 2), (102, .iconst 1, 1), (103, .iadd, 1), (104, .ireturn, 1), (105, .aload_n 0, 1), (106, .getfield 19, 3), (109, .aload_n 0, 1), (110, .getfield 13, 3), (113, .iload_n 1, 1), (114, .iaload, 1), (115, .iaload, 1), (116, .istore 5, 2), (118, .iload_n 2, 1), (119, .iload_n 3, 1), (120, .iadd, 1), (121, .iload 5, 2), (123, .if_icmp .gt 18, 3), (126, .aload_n 0, 1), (127, .aload_n 0, 1), (128, .getfield 13, 3), (131, .iload_n 1, 1), (132, .iaload, 1), (133, .iload_n 2, 1), (134, .iload_n 3, 1), (135, .invokevirtual 168, 3), (138, .goto 68, 3), (141, .iload_n 2, 1), (142, .iload 5, 2), (144, .if_icmp .lt 21, 3), (147, .aload_n 0, 1), (148, .aload_n 0, 1), (149, .getfield 16, 3), (152, .iload_n 1, 1), (153, .iaload, 1), (154, .iload_n 2, 1), (155, .iload 5, 2), (157, .isub, 1), (158, .iload_n 3, 1), (159, .invokevirtual 168, 3), (162, .goto 44, 3), (165, .aload_n 0, 1), (166, .bipush (-6), 2), (168, .iconst 0, 1), (169, .bipush (-6), 2), (171, .invokevirtual 168, 3), (174, .aload_n 0, 1), (175, .aload_n 0, 1), (176, .getfield 16, 3), (179, .iload_n 1, 1), (180, .iaload, 1), (181, .iconst 0, 1), (182, .iload_n 2, 1), (183, .iload_n 3, 1), (184, .iadd, 1), (185, .iload 5, 2), (187, .isub, 1), (188, .invokevirtual 168, 3), (191, .aload_n 0, 1), (192, .aload_n 0, 1), (193, .getfield 13, 3), (196, .iload_n 1, 1), (197, .iaload, 1), (198, .iload_n 2, 1), (199, .iload 5, 2), (201, .iload_n 2, 1), (202, .isub, 1), (203, .invokevirtual 168, 3), (206, .iload 4, 2), (208, .ireturn, 1)]
def sp_cutOne : mQ rf_M := [((0, 100), 2, 1, P_newLeaf), ((0, 164), 4, 1, P_cutLeaf), ((0, 168), 4, 0, P_toCut)]
def W_cutOne (ret : Option mV → rf_M → Prop) : mX rf_M → Prop := mm_W 1 cd_cutOne rf_hk sp_cutOne ret
def P_cutOne : mP rf_M := rf_P (mm_Pm 1 cd_cutOne rf_hk sp_cutOne 6)
theorem r_cutOne_0 (ret : Option mV → rf_M → Prop) (μ : rf_M) (y : Int32) (l0 l1 l2 l4 l5 : Option mV) : W_cutOne ret (0, [l0, l1, l2, some (.inl y), l4, l5], [], μ, 0, 0) = W_cutOne ret (1, [l0, l1, l2, some (.inl y), l4, l5], [.inl y], μ, 0, 0) := mm_W_eq rf_hk_mono _
theorem r_cutOne_1 (ret : Option mV → rf_M → Prop) (μ : rf_M) (x0 : Int32) (ls : List (Option mV)) : W_cutOne ret (1, ls, [.inl x0], μ, 0, 0) = ((¬ x0 = 0 → W_cutOne ret (21, ls, [], μ, 0, 0)) ∧ (¬ (¬ x0 = 0) → W_cutOne ret (4, ls, [], μ, 0, 0))) := mm_W_eq rf_hk_mono _
theorem r_cutOne_4 (ret : Option mV → rf_M → Prop) (μ : rf_M) (l1 l2 l3 l4 l5 : Option mV) : W_cutOne ret (4, [some (.inr (some 39)), l1, l2, l3, l4, l5], [], μ, 0, 0) = W_cutOne ret (5, [some (.inr (some 39)), l1, l2, l3, l4, l5], [.inr (some 39)], μ, 0, 0) := mm_W_eq rf_hk_mono _
theorem r_cutOne_5 (ret : Option mV → rf_M → Prop) (μ : rf_M) (ls : List (Option mV)) : W_cutOne ret (5, ls, [.inr (some 39)], μ, 0, 0) = W_cutOne ret (8, ls, [.inr (some 36)], μ, 0, 0) := mm_W_eq rf_hk_mono _
theorem r_cutOne_8 (ret : Option mV → rf_M → Prop) (μ : rf_M) (y : Int32) (l0 l1 l2 l3 l5 : Option mV) : W_cutOne ret (8, [l0, l1, l2, l3, some (.inl y), l5], [.inr (some 36)], μ, 0, 0) = W_cutOne ret (10, [l0, l1, l2, l3, some (.inl y), l5], [.inl y, .inr (some 36)], μ, 0, 0) := mm_W_eq rf_hk_mono _
theorem r_cutOne_10 (ret : Option mV → rf_M → Prop) (μ : rf_M) (x0 : Int32) (l1 l2 l3 l4 l5 : Option mV) : W_cutOne ret (10, [some (.inr (some 39)), l1, l2, l3, l4, l5], [.inl x0, .inr (some 36)], μ, 0, 0) = W_cutOne ret (11, [some (.inr (some 39)), l1, l2, l3, l4, l5], [.inr (some 39), .inl x0, .inr (some 36)], μ, 0, 0) := mm_W_eq rf_hk_mono _
theorem r_cutOne_11 (ret : Option mV → rf_M → Prop) (μ : rf_M) (x1 : Int32) (ls : List (Option mV)) : W_cutOne ret (11, ls, [.inr (some 39), .inl x1, .inr (some 36)], μ, 0, 0) = W_cutOne ret (12, ls, [.inl (nI 0), .inr (some 39), .inl x1, .inr (some 36)], μ, 0, 0) := mm_W_eq rf_hk_mono _
theorem r_cutOne_12 (ret : Option mV → rf_M → Prop) (μ : rf_M) (x0 x2 : Int32) (ls : List (Option mV)) : W_cutOne ret (12, ls, [.inl x0, .inr (some 39), .inl x2, .inr (some 36)], μ, 0, 0) = (∃ Q0 : Int32 → rf_M → Prop, P_newLeaf [.inr (some 39), .inl x0] μ 0 0 (mI Q0) ∧ ∀ r s', Q0 r s' → W_cutOne ret (15, ls, [.inl r, .inl x2, .inr (some 36)], s', 0, 0)) := mm_W_eq rf_hk_mono _
theorem r_cutOne_15 (ret : Option mV → rf_M → Prop) (μ : rf_M) (x0 x1 : Int32) (ls : List (Option mV)) : W_cutOne ret (15, ls, [.inl x0, .inl x1, .inr (some 36)], μ, 0, 0) = (vp_in x1 512 ∧ W_cutOne ret (16, ls, [], (μ.1, rf_up μ.2 36 x1.toNatClampNeg x0), 0, 0)) := mm_W_eq rf_hk_mono _
theorem r_cutOne_16 (ret : Option mV → rf_M → Prop) (μ : rf_M) (y : Int32) (l0 l1 l2 l3 l5 : Option mV) : W_cutOne ret (16, [l0, l1, l2, l3, some (.inl y), l5], [], μ, 0, 0) = W_cutOne ret (18, [l0, l1, l2, l3, some (.inl y), l5], [.inl y], μ, 0, 0) := mm_W_eq rf_hk_mono _
theorem r_cutOne_18 (ret : Option mV → rf_M → Prop) (μ : rf_M) (x0 : Int32) (ls : List (Option mV)) : W_cutOne ret (18, ls, [.inl x0], μ, 0, 0) = W_cutOne ret (19, ls, [.inl (nI 1), .inl x0], μ, 0, 0) := mm_W_eq rf_hk_mono _
theorem r_cutOne_19 (ret : Option mV → rf_M → Prop) (μ : rf_M) (x0 x1 : Int32) (ls : List (Option mV)) : W_cutOne ret (19, ls, [.inl x0, .inl x1], μ, 0, 0) = W_cutOne ret (20, ls, [.inl (x1 + x0)], μ, 0, 0) := mm_W_eq rf_hk_mono _
theorem r_cutOne_20 (ret : Option mV → rf_M → Prop) (μ : rf_M) (x0 : Int32) (ls : List (Option mV)) : W_cutOne ret (20, ls, [.inl x0], μ, 0, 0) = ret (some (.inl x0)) μ := mm_W_eq rf_hk_mono _
theorem r_cutOne_21 (ret : Option mV → rf_M → Prop) (μ : rf_M) (y : Int32) (l0 l1 l2 l4 l5 : Option mV) : W_cutOne ret (21, [l0, l1, l2, some (.inl y), l4, l5], [], μ, 0, 0) = W_cutOne ret (22, [l0, l1, l2, some (.inl y), l4, l5], [.inl y], μ, 0, 0) := mm_W_eq rf_hk_mono _
theorem r_cutOne_22 (ret : Option mV → rf_M → Prop) (μ : rf_M) (x0 : Int32) (l1 l2 l3 l4 l5 : Option mV) : W_cutOne ret (22, [some (.inr (some 39)), l1, l2, l3, l4, l5], [.inl x0], μ, 0, 0) = W_cutOne ret (23, [some (.inr (some 39)), l1, l2, l3, l4, l5], [.inr (some 39), .inl x0], μ, 0, 0) := mm_W_eq rf_hk_mono _
theorem r_cutOne_23 (ret : Option mV → rf_M → Prop) (μ : rf_M) (x1 : Int32) (ls : List (Option mV)) : W_cutOne ret (23, ls, [.inr (some 39), .inl x1], μ, 0, 0) = W_cutOne ret (26, ls, [.inr (some 3), .inl x1], μ, 0, 0) := mm_W_eq rf_hk_mono _
theorem r_cutOne_26 (ret : Option mV → rf_M → Prop) (μ : rf_M) (x1 y : Int32) (l0 l2 l3 l4 l5 : Option mV) : W_cutOne ret (26, [l0, some (.inl y), l2, l3, l4, l5], [.inr (some 3), .inl x1], μ, 0, 0) = W_cutOne ret (27, [l0, some (.inl y), l2, l3, l4, l5], [.inl y, .inr (some 3), .inl x1], μ, 0, 0) := mm_W_eq rf_hk_mono _
theorem r_cutOne_27 (ret : Option mV → rf_M → Prop) (μ : rf_M) (x0 x2 : Int32) (ls : List (Option mV)) : W_cutOne ret (27, ls, [.inl x0, .inr (some 3), .inl x2], μ, 0, 0) = (vp_in x0 20480 ∧ W_cutOne ret (28, ls, [.inl (μ.2 3 x0.toNatClampNeg), .inl x2], μ, 0, 0)) := mm_W_eq rf_hk_mono _
theorem r_cutOne_28 (ret : Option mV → rf_M → Prop) (μ : rf_M) (x0 x1 : Int32) (ls : List (Option mV)) : W_cutOne ret (28, ls, [.inl x0, .inl x1], μ, 0, 0) = ((¬ x1 = x0 → W_cutOne ret (44, ls, [], μ, 0, 0)) ∧ (¬ (¬ x1 = x0) → W_cutOne ret (31, ls, [], μ, 0, 0))) := mm_W_eq rf_hk_mono _
theorem r_cutOne_31 (ret : Option mV → rf_M → Prop) (μ : rf_M) (l1 l2 l3 l4 l5 : Option mV) : W_cutOne ret (31, [some (.inr (some 39)), l1, l2, l3, l4, l5], [], μ, 0, 0) = W_cutOne ret (32, [some (.inr (some 39)), l1, l2, l3, l4, l5], [.inr (some 39)], μ, 0, 0) := mm_W_eq rf_hk_mono _
theorem r_cutOne_32 (ret : Option mV → rf_M → Prop) (μ : rf_M) (ls : List (Option mV)) : W_cutOne ret (32, ls, [.inr (some 39)], μ, 0, 0) = W_cutOne ret (35, ls, [.inr (some 36)], μ, 0, 0) := mm_W_eq rf_hk_mono _
theorem r_cutOne_35 (ret : Option mV → rf_M → Prop) (μ : rf_M) (y : Int32) (l0 l1 l2 l3 l5 : Option mV) : W_cutOne ret (35, [l0, l1, l2, l3, some (.inl y), l5], [.inr (some 36)], μ, 0, 0) = W_cutOne ret (37, [l0, l1, l2, l3, some (.inl y), l5], [.inl y, .inr (some 36)], μ, 0, 0) := mm_W_eq rf_hk_mono _
theorem r_cutOne_37 (ret : Option mV → rf_M → Prop) (μ : rf_M) (x0 y : Int32) (l0 l2 l3 l4 l5 : Option mV) : W_cutOne ret (37, [l0, some (.inl y), l2, l3, l4, l5], [.inl x0, .inr (some 36)], μ, 0, 0) = W_cutOne ret (38, [l0, some (.inl y), l2, l3, l4, l5], [.inl y, .inl x0, .inr (some 36)], μ, 0, 0) := mm_W_eq rf_hk_mono _
theorem r_cutOne_38 (ret : Option mV → rf_M → Prop) (μ : rf_M) (x0 x1 : Int32) (ls : List (Option mV)) : W_cutOne ret (38, ls, [.inl x0, .inl x1, .inr (some 36)], μ, 0, 0) = (vp_in x1 512 ∧ W_cutOne ret (39, ls, [], (μ.1, rf_up μ.2 36 x1.toNatClampNeg x0), 0, 0)) := mm_W_eq rf_hk_mono _
theorem r_cutOne_39 (ret : Option mV → rf_M → Prop) (μ : rf_M) (y : Int32) (l0 l1 l2 l3 l5 : Option mV) : W_cutOne ret (39, [l0, l1, l2, l3, some (.inl y), l5], [], μ, 0, 0) = W_cutOne ret (41, [l0, l1, l2, l3, some (.inl y), l5], [.inl y], μ, 0, 0) := mm_W_eq rf_hk_mono _
theorem r_cutOne_41 (ret : Option mV → rf_M → Prop) (μ : rf_M) (x0 : Int32) (ls : List (Option mV)) : W_cutOne ret (41, ls, [.inl x0], μ, 0, 0) = W_cutOne ret (42, ls, [.inl (nI 1), .inl x0], μ, 0, 0) := mm_W_eq rf_hk_mono _
theorem r_cutOne_42 (ret : Option mV → rf_M → Prop) (μ : rf_M) (x0 x1 : Int32) (ls : List (Option mV)) : W_cutOne ret (42, ls, [.inl x0, .inl x1], μ, 0, 0) = W_cutOne ret (43, ls, [.inl (x1 + x0)], μ, 0, 0) := mm_W_eq rf_hk_mono _
theorem r_cutOne_43 (ret : Option mV → rf_M → Prop) (μ : rf_M) (x0 : Int32) (ls : List (Option mV)) : W_cutOne ret (43, ls, [.inl x0], μ, 0, 0) = ret (some (.inl x0)) μ := mm_W_eq rf_hk_mono _
theorem r_cutOne_44 (ret : Option mV → rf_M → Prop) (μ : rf_M) (l1 l2 l3 l4 l5 : Option mV) : W_cutOne ret (44, [some (.inr (some 39)), l1, l2, l3, l4, l5], [], μ, 0, 0) = W_cutOne ret (45, [some (.inr (some 39)), l1, l2, l3, l4, l5], [.inr (some 39)], μ, 0, 0) := mm_W_eq rf_hk_mono _
theorem r_cutOne_45 (ret : Option mV → rf_M → Prop) (μ : rf_M) (ls : List (Option mV)) : W_cutOne ret (45, ls, [.inr (some 39)], μ, 0, 0) = W_cutOne ret (48, ls, [.inr (some 0)], μ, 0, 0) := mm_W_eq rf_hk_mono _
theorem r_cutOne_48 (ret : Option mV → rf_M → Prop) (μ : rf_M) (y : Int32) (l0 l2 l3 l4 l5 : Option mV) : W_cutOne ret (48, [l0, some (.inl y), l2, l3, l4, l5], [.inr (some 0)], μ, 0, 0) = W_cutOne ret (49, [l0, some (.inl y), l2, l3, l4, l5], [.inl y, .inr (some 0)], μ, 0, 0) := mm_W_eq rf_hk_mono _
theorem r_cutOne_49 (ret : Option mV → rf_M → Prop) (μ : rf_M) (x0 : Int32) (ls : List (Option mV)) : W_cutOne ret (49, ls, [.inl x0, .inr (some 0)], μ, 0, 0) = (vp_in x0 20480 ∧ W_cutOne ret (50, ls, [.inl (μ.2 0 x0.toNatClampNeg)], μ, 0, 0)) := mm_W_eq rf_hk_mono _
theorem r_cutOne_50 (ret : Option mV → rf_M → Prop) (μ : rf_M) (x0 : Int32) (ls : List (Option mV)) : W_cutOne ret (50, ls, [.inl x0], μ, 0, 0) = W_cutOne ret (51, ls, [.inl (nI 2), .inl x0], μ, 0, 0) := mm_W_eq rf_hk_mono _
theorem r_cutOne_51 (ret : Option mV → rf_M → Prop) (μ : rf_M) (x0 x1 : Int32) (ls : List (Option mV)) : W_cutOne ret (51, ls, [.inl x0, .inl x1], μ, 0, 0) = ((x1 = x0 → W_cutOne ret (105, ls, [], μ, 0, 0)) ∧ (¬ x1 = x0 → W_cutOne ret (54, ls, [], μ, 0, 0))) := mm_W_eq rf_hk_mono _
theorem r_cutOne_54 (ret : Option mV → rf_M → Prop) (μ : rf_M) (l1 l2 l3 l4 l5 : Option mV) : W_cutOne ret (54, [some (.inr (some 39)), l1, l2, l3, l4, l5], [], μ, 0, 0) = W_cutOne ret (55, [some (.inr (some 39)), l1, l2, l3, l4, l5], [.inr (some 39)], μ, 0, 0) := mm_W_eq rf_hk_mono _
theorem r_cutOne_55 (ret : Option mV → rf_M → Prop) (μ : rf_M) (ls : List (Option mV)) : W_cutOne ret (55, ls, [.inr (some 39)], μ, 0, 0) = W_cutOne ret (58, ls, [.inr (some 36)], μ, 0, 0) := mm_W_eq rf_hk_mono _
theorem r_cutOne_58 (ret : Option mV → rf_M → Prop) (μ : rf_M) (y : Int32) (l0 l1 l2 l3 l5 : Option mV) : W_cutOne ret (58, [l0, l1, l2, l3, some (.inl y), l5], [.inr (some 36)], μ, 0, 0) = W_cutOne ret (60, [l0, l1, l2, l3, some (.inl y), l5], [.inl y, .inr (some 36)], μ, 0, 0) := mm_W_eq rf_hk_mono _
theorem r_cutOne_60 (ret : Option mV → rf_M → Prop) (μ : rf_M) (x0 : Int32) (l1 l2 l3 l4 l5 : Option mV) : W_cutOne ret (60, [some (.inr (some 39)), l1, l2, l3, l4, l5], [.inl x0, .inr (some 36)], μ, 0, 0) = W_cutOne ret (61, [some (.inr (some 39)), l1, l2, l3, l4, l5], [.inr (some 39), .inl x0, .inr (some 36)], μ, 0, 0) := mm_W_eq rf_hk_mono _
set_option maxRecDepth 8000 in
theorem r_cutOne_61 (ret : Option mV → rf_M → Prop) (μ : rf_M) (x1 : Int32) (ls : List (Option mV)) : W_cutOne ret (61, ls, [.inr (some 39), .inl x1, .inr (some 36)], μ, 0, 0) = W_cutOne ret (64, ls, [.inr (some 0), .inl x1, .inr (some 36)], μ, 0, 0) := mm_W_eq rf_hk_mono _
set_option maxRecDepth 8000 in
theorem r_cutOne_64 (ret : Option mV → rf_M → Prop) (μ : rf_M) (x1 y : Int32) (l0 l2 l3 l4 l5 : Option mV) : W_cutOne ret (64, [l0, some (.inl y), l2, l3, l4, l5], [.inr (some 0), .inl x1, .inr (some 36)], μ, 0, 0) = W_cutOne ret (65, [l0, some (.inl y), l2, l3, l4, l5], [.inl y, .inr (some 0), .inl x1, .inr (some 36)], μ, 0, 0) := mm_W_eq rf_hk_mono _
set_option maxRecDepth 8000 in
theorem r_cutOne_65 (ret : Option mV → rf_M → Prop) (μ : rf_M) (x0 x2 : Int32) (ls : List (Option mV)) : W_cutOne ret (65, ls, [.inl x0, .inr (some 0), .inl x2, .inr (some 36)], μ, 0, 0) = (vp_in x0 20480 ∧ W_cutOne ret (66, ls, [.inl (μ.2 0 x0.toNatClampNeg), .inl x2, .inr (some 36)], μ, 0, 0)) := mm_W_eq rf_hk_mono _
set_option maxRecDepth 8000 in
theorem r_cutOne_66 (ret : Option mV → rf_M → Prop) (μ : rf_M) (x0 x1 : Int32) (ls : List (Option mV)) : W_cutOne ret (66, ls, [.inl x0, .inl x1, .inr (some 36)], μ, 0, 0) = W_cutOne ret (67, ls, [.inl (nI 1), .inl x0, .inl x1, .inr (some 36)], μ, 0, 0) := mm_W_eq rf_hk_mono _
set_option maxRecDepth 8000 in
theorem r_cutOne_67 (ret : Option mV → rf_M → Prop) (μ : rf_M) (x0 x1 x2 : Int32) (ls : List (Option mV)) : W_cutOne ret (67, ls, [.inl x0, .inl x1, .inl x2, .inr (some 36)], μ, 0, 0) = ((¬ x1 = x0 → W_cutOne ret (80, ls, [.inl x2, .inr (some 36)], μ, 0, 0)) ∧ (¬ (¬ x1 = x0) → W_cutOne ret (70, ls, [.inl x2, .inr (some 36)], μ, 0, 0))) := mm_W_eq rf_hk_mono _
set_option maxRecDepth 8000 in
theorem r_cutOne_70 (ret : Option mV → rf_M → Prop) (μ : rf_M) (x0 : Int32) (l1 l2 l3 l4 l5 : Option mV) : W_cutOne ret (70, [some (.inr (some 39)), l1, l2, l3, l4, l5], [.inl x0, .inr (some 36)], μ, 0, 0) = W_cutOne ret (71, [some (.inr (some 39)), l1, l2, l3, l4, l5], [.inr (some 39), .inl x0, .inr (some 36)], μ, 0, 0) := mm_W_eq rf_hk_mono _
set_option maxRecDepth 8000 in
theorem r_cutOne_71 (ret : Option mV → rf_M → Prop) (μ : rf_M) (x1 y : Int32) (l0 l2 l3 l4 l5 : Option mV) : W_cutOne ret (71, [l0, some (.inl y), l2, l3, l4, l5], [.inr (some 39), .inl x1, .inr (some 36)], μ, 0, 0) = W_cutOne ret (72, [l0, some (.inl y), l2, l3, l4, l5], [.inl y, .inr (some 39), .inl x1, .inr (some 36)], μ, 0, 0) := mm_W_eq rf_hk_mono _
set_option maxRecDepth 8000 in
theorem r_cutOne_72 (ret : Option mV → rf_M → Prop) (μ : rf_M) (x0 x2 y : Int32) (l0 l1 l3 l4 l5 : Option mV) : W_cutOne ret (72, [l0, l1, some (.inl y), l3, l4, l5], [.inl x0, .inr (some 39), .inl x2, .inr (some 36)], μ, 0, 0) = W_cutOne ret (73, [l0, l1, some (.inl y), l3, l4, l5], [.inl y, .inl x0, .inr (some 39), .inl x2, .inr (some 36)], μ, 0, 0) := mm_W_eq rf_hk_mono _
set_option maxRecDepth 8000 in
theorem r_cutOne_73 (ret : Option mV → rf_M → Prop) (μ : rf_M) (x0 x1 x3 y : Int32) (l0 l1 l2 l4 l5 : Option mV) : W_cutOne ret (73, [l0, l1, l2, some (.inl y), l4, l5], [.inl x0, .inl x1, .inr (some 39), .inl x3, .inr (some 36)], μ, 0, 0) = W_cutOne ret (74, [l0, l1, l2, some (.inl y), l4, l5], [.inl y, .inl x0, .inl x1, .inr (some 39), .inl x3, .inr (some 36)], μ, 0, 0) := mm_W_eq rf_hk_mono _
set_option maxRecDepth 8000 in
theorem r_cutOne_74 (ret : Option mV → rf_M → Prop) (μ : rf_M) (x0 x1 x2 x4 : Int32) (ls : List (Option mV)) : W_cutOne ret (74, ls, [.inl x0, .inl x1, .inl x2, .inr (some 39), .inl x4, .inr (some 36)], μ, 0, 0) = (∃ Q0 : Int32 → rf_M → Prop, P_cutLeaf [.inr (some 39), .inl x2, .inl x1, .inl x0] μ 0 0 (mI Q0) ∧ ∀ r s', Q0 r s' → W_cutOne ret (77, ls, [.inl r, .inl x4, .inr (some 36)], s', 0, 0)) := mm_W_eq rf_hk_mono _
set_option maxRecDepth 8000 in
theorem r_cutOne_77 (ret : Option mV → rf_M → Prop) (μ : rf_M) (x0 x1 : Int32) (ls : List (Option mV)) : W_cutOne ret (77, ls, [.inl x0, .inl x1, .inr (some 36)], μ, 0, 0) = W_cutOne ret (99, ls, [.inl x0, .inl x1, .inr (some 36)], μ, 0, 0) := mm_W_eq rf_hk_mono _
set_option maxRecDepth 8000 in
theorem r_cutOne_80 (ret : Option mV → rf_M → Prop) (μ : rf_M) (x0 : Int32) (l1 l2 l3 l4 l5 : Option mV) : W_cutOne ret (80, [some (.inr (some 39)), l1, l2, l3, l4, l5], [.inl x0, .inr (some 36)], μ, 0, 0) = W_cutOne ret (81, [some (.inr (some 39)), l1, l2, l3, l4, l5], [.inr (some 39), .inl x0, .inr (some 36)], μ, 0, 0) := mm_W_eq rf_hk_mono _
set_option maxRecDepth 8000 in
theorem r_cutOne_81 (ret : Option mV → rf_M → Prop) (μ : rf_M) (x1 : Int32) (l1 l2 l3 l4 l5 : Option mV) : W_cutOne ret (81, [some (.inr (some 39)), l1, l2, l3, l4, l5], [.inr (some 39), .inl x1, .inr (some 36)], μ, 0, 0) = W_cutOne ret (82, [some (.inr (some 39)), l1, l2, l3, l4, l5], [.inr (some 39), .inr (some 39), .inl x1, .inr (some 36)], μ, 0, 0) := mm_W_eq rf_hk_mono _
set_option maxRecDepth 8000 in
theorem r_cutOne_82 (ret : Option mV → rf_M → Prop) (μ : rf_M) (x2 : Int32) (ls : List (Option mV)) : W_cutOne ret (82, ls, [.inr (some 39), .inr (some 39), .inl x2, .inr (some 36)], μ, 0, 0) = W_cutOne ret (85, ls, [.inr (some 1), .inr (some 39), .inl x2, .inr (some 36)], μ, 0, 0) := mm_W_eq rf_hk_mono _
set_option maxRecDepth 8000 in
theorem r_cutOne_85 (ret : Option mV → rf_M → Prop) (μ : rf_M) (x2 y : Int32) (l0 l2 l3 l4 l5 : Option mV) : W_cutOne ret (85, [l0, some (.inl y), l2, l3, l4, l5], [.inr (some 1), .inr (some 39), .inl x2, .inr (some 36)], μ, 0, 0) = W_cutOne ret (86, [l0, some (.inl y), l2, l3, l4, l5], [.inl y, .inr (some 1), .inr (some 39), .inl x2, .inr (some 36)], μ, 0, 0) := mm_W_eq rf_hk_mono _
set_option maxRecDepth 8000 in
theorem r_cutOne_86 (ret : Option mV → rf_M → Prop) (μ : rf_M) (x0 x3 : Int32) (ls : List (Option mV)) : W_cutOne ret (86, ls, [.inl x0, .inr (some 1), .inr (some 39), .inl x3, .inr (some 36)], μ, 0, 0) = (vp_in x0 20480 ∧ W_cutOne ret (87, ls, [.inl (μ.2 1 x0.toNatClampNeg), .inr (some 39), .inl x3, .inr (some 36)], μ, 0, 0)) := mm_W_eq rf_hk_mono _
set_option maxRecDepth 8000 in
theorem r_cutOne_87 (ret : Option mV → rf_M → Prop) (μ : rf_M) (x0 x2 : Int32) (l1 l2 l3 l4 l5 : Option mV) : W_cutOne ret (87, [some (.inr (some 39)), l1, l2, l3, l4, l5], [.inl x0, .inr (some 39), .inl x2, .inr (some 36)], μ, 0, 0) = W_cutOne ret (88, [some (.inr (some 39)), l1, l2, l3, l4, l5], [.inr (some 39), .inl x0, .inr (some 39), .inl x2, .inr (some 36)], μ, 0, 0) := mm_W_eq rf_hk_mono _
set_option maxRecDepth 8000 in
theorem r_cutOne_88 (ret : Option mV → rf_M → Prop) (μ : rf_M) (x1 x3 : Int32) (ls : List (Option mV)) : W_cutOne ret (88, ls, [.inr (some 39), .inl x1, .inr (some 39), .inl x3, .inr (some 36)], μ, 0, 0) = W_cutOne ret (91, ls, [.inr (some 2), .inl x1, .inr (some 39), .inl x3, .inr (some 36)], μ, 0, 0) := mm_W_eq rf_hk_mono _
set_option maxRecDepth 8000 in
theorem r_cutOne_91 (ret : Option mV → rf_M → Prop) (μ : rf_M) (x1 x3 y : Int32) (l0 l2 l3 l4 l5 : Option mV) : W_cutOne ret (91, [l0, some (.inl y), l2, l3, l4, l5], [.inr (some 2), .inl x1, .inr (some 39), .inl x3, .inr (some 36)], μ, 0, 0) = W_cutOne ret (92, [l0, some (.inl y), l2, l3, l4, l5], [.inl y, .inr (some 2), .inl x1, .inr (some 39), .inl x3, .inr (some 36)], μ, 0, 0) := mm_W_eq rf_hk_mono _
set_option maxRecDepth 8000 in
theorem r_cutOne_92 (ret : Option mV → rf_M → Prop) (μ : rf_M) (x0 x2 x4 : Int32) (ls : List (Option mV)) : W_cutOne ret (92, ls, [.inl x0, .inr (some 2), .inl x2, .inr (some 39), .inl x4, .inr (some 36)], μ, 0, 0) = (vp_in x0 20480 ∧ W_cutOne ret (93, ls, [.inl (μ.2 2 x0.toNatClampNeg), .inl x2, .inr (some 39), .inl x4, .inr (some 36)], μ, 0, 0)) := mm_W_eq rf_hk_mono _
set_option maxRecDepth 8000 in
theorem r_cutOne_93 (ret : Option mV → rf_M → Prop) (μ : rf_M) (x0 x1 x3 y : Int32) (l0 l1 l3 l4 l5 : Option mV) : W_cutOne ret (93, [l0, l1, some (.inl y), l3, l4, l5], [.inl x0, .inl x1, .inr (some 39), .inl x3, .inr (some 36)], μ, 0, 0) = W_cutOne ret (94, [l0, l1, some (.inl y), l3, l4, l5], [.inl y, .inl x0, .inl x1, .inr (some 39), .inl x3, .inr (some 36)], μ, 0, 0) := mm_W_eq rf_hk_mono _
set_option maxRecDepth 8000 in
theorem r_cutOne_94 (ret : Option mV → rf_M → Prop) (μ : rf_M) (x0 x1 x2 x4 : Int32) (ls : List (Option mV)) : W_cutOne ret (94, ls, [.inl x0, .inl x1, .inl x2, .inr (some 39), .inl x4, .inr (some 36)], μ, 0, 0) = W_cutOne ret (95, ls, [.inl (x1 + x0), .inl x2, .inr (some 39), .inl x4, .inr (some 36)], μ, 0, 0) := mm_W_eq rf_hk_mono _
set_option maxRecDepth 8000 in
theorem r_cutOne_95 (ret : Option mV → rf_M → Prop) (μ : rf_M) (x0 x1 x3 y : Int32) (l0 l1 l2 l4 l5 : Option mV) : W_cutOne ret (95, [l0, l1, l2, some (.inl y), l4, l5], [.inl x0, .inl x1, .inr (some 39), .inl x3, .inr (some 36)], μ, 0, 0) = W_cutOne ret (96, [l0, l1, l2, some (.inl y), l4, l5], [.inl y, .inl x0, .inl x1, .inr (some 39), .inl x3, .inr (some 36)], μ, 0, 0) := mm_W_eq rf_hk_mono _
set_option maxRecDepth 8000 in
theorem r_cutOne_96 (ret : Option mV → rf_M → Prop) (μ : rf_M) (x0 x1 x2 x4 : Int32) (ls : List (Option mV)) : W_cutOne ret (96, ls, [.inl x0, .inl x1, .inl x2, .inr (some 39), .inl x4, .inr (some 36)], μ, 0, 0) = (∃ Q0 : Int32 → rf_M → Prop, P_cutLeaf [.inr (some 39), .inl x2, .inl x1, .inl x0] μ 0 0 (mI Q0) ∧ ∀ r s', Q0 r s' → W_cutOne ret (99, ls, [.inl r, .inl x4, .inr (some 36)], s', 0, 0)) := mm_W_eq rf_hk_mono _
set_option maxRecDepth 8000 in
theorem r_cutOne_99 (ret : Option mV → rf_M → Prop) (μ : rf_M) (x0 x1 : Int32) (ls : List (Option mV)) : W_cutOne ret (99, ls, [.inl x0, .inl x1, .inr (some 36)], μ, 0, 0) = (vp_in x1 512 ∧ W_cutOne ret (100, ls, [], (μ.1, rf_up μ.2 36 x1.toNatClampNeg x0), 0, 0)) := mm_W_eq rf_hk_mono _
set_option maxRecDepth 8000 in
theorem r_cutOne_100 (ret : Option mV → rf_M → Prop) (μ : rf_M) (y : Int32) (l0 l1 l2 l3 l5 : Option mV) : W_cutOne ret (100, [l0, l1, l2, l3, some (.inl y), l5], [], μ, 0, 0) = W_cutOne ret (102, [l0, l1, l2, l3, some (.inl y), l5], [.inl y], μ, 0, 0) := mm_W_eq rf_hk_mono _
set_option maxRecDepth 8000 in
theorem r_cutOne_102 (ret : Option mV → rf_M → Prop) (μ : rf_M) (x0 : Int32) (ls : List (Option mV)) : W_cutOne ret (102, ls, [.inl x0], μ, 0, 0) = W_cutOne ret (103, ls, [.inl (nI 1), .inl x0], μ, 0, 0) := mm_W_eq rf_hk_mono _
set_option maxRecDepth 8000 in
theorem r_cutOne_103 (ret : Option mV → rf_M → Prop) (μ : rf_M) (x0 x1 : Int32) (ls : List (Option mV)) : W_cutOne ret (103, ls, [.inl x0, .inl x1], μ, 0, 0) = W_cutOne ret (104, ls, [.inl (x1 + x0)], μ, 0, 0) := mm_W_eq rf_hk_mono _
set_option maxRecDepth 8000 in
theorem r_cutOne_104 (ret : Option mV → rf_M → Prop) (μ : rf_M) (x0 : Int32) (ls : List (Option mV)) : W_cutOne ret (104, ls, [.inl x0], μ, 0, 0) = ret (some (.inl x0)) μ := mm_W_eq rf_hk_mono _
set_option maxRecDepth 8000 in
theorem r_cutOne_105 (ret : Option mV → rf_M → Prop) (μ : rf_M) (l1 l2 l3 l4 l5 : Option mV) : W_cutOne ret (105, [some (.inr (some 39)), l1, l2, l3, l4, l5], [], μ, 0, 0) = W_cutOne ret (106, [some (.inr (some 39)), l1, l2, l3, l4, l5], [.inr (some 39)], μ, 0, 0) := mm_W_eq rf_hk_mono _
set_option maxRecDepth 8000 in
theorem r_cutOne_106 (ret : Option mV → rf_M → Prop) (μ : rf_M) (ls : List (Option mV)) : W_cutOne ret (106, ls, [.inr (some 39)], μ, 0, 0) = W_cutOne ret (109, ls, [.inr (some 3)], μ, 0, 0) := mm_W_eq rf_hk_mono _
set_option maxRecDepth 8000 in
theorem r_cutOne_109 (ret : Option mV → rf_M → Prop) (μ : rf_M) (l1 l2 l3 l4 l5 : Option mV) : W_cutOne ret (109, [some (.inr (some 39)), l1, l2, l3, l4, l5], [.inr (some 3)], μ, 0, 0) = W_cutOne ret (110, [some (.inr (some 39)), l1, l2, l3, l4, l5], [.inr (some 39), .inr (some 3)], μ, 0, 0) := mm_W_eq rf_hk_mono _
set_option maxRecDepth 8000 in
theorem r_cutOne_110 (ret : Option mV → rf_M → Prop) (μ : rf_M) (ls : List (Option mV)) : W_cutOne ret (110, ls, [.inr (some 39), .inr (some 3)], μ, 0, 0) = W_cutOne ret (113, ls, [.inr (some 1), .inr (some 3)], μ, 0, 0) := mm_W_eq rf_hk_mono _
set_option maxRecDepth 8000 in
theorem r_cutOne_113 (ret : Option mV → rf_M → Prop) (μ : rf_M) (y : Int32) (l0 l2 l3 l4 l5 : Option mV) : W_cutOne ret (113, [l0, some (.inl y), l2, l3, l4, l5], [.inr (some 1), .inr (some 3)], μ, 0, 0) = W_cutOne ret (114, [l0, some (.inl y), l2, l3, l4, l5], [.inl y, .inr (some 1), .inr (some 3)], μ, 0, 0) := mm_W_eq rf_hk_mono _
set_option maxRecDepth 8000 in
theorem r_cutOne_114 (ret : Option mV → rf_M → Prop) (μ : rf_M) (x0 : Int32) (ls : List (Option mV)) : W_cutOne ret (114, ls, [.inl x0, .inr (some 1), .inr (some 3)], μ, 0, 0) = (vp_in x0 20480 ∧ W_cutOne ret (115, ls, [.inl (μ.2 1 x0.toNatClampNeg), .inr (some 3)], μ, 0, 0)) := mm_W_eq rf_hk_mono _
set_option maxRecDepth 8000 in
theorem r_cutOne_115 (ret : Option mV → rf_M → Prop) (μ : rf_M) (x0 : Int32) (ls : List (Option mV)) : W_cutOne ret (115, ls, [.inl x0, .inr (some 3)], μ, 0, 0) = (vp_in x0 20480 ∧ W_cutOne ret (116, ls, [.inl (μ.2 3 x0.toNatClampNeg)], μ, 0, 0)) := mm_W_eq rf_hk_mono _
set_option maxRecDepth 8000 in
theorem r_cutOne_116 (ret : Option mV → rf_M → Prop) (μ : rf_M) (x0 : Int32) (l0 l1 l2 l3 l4 l5 : Option mV) : W_cutOne ret (116, [l0, l1, l2, l3, l4, l5], [.inl x0], μ, 0, 0) = W_cutOne ret (118, [l0, l1, l2, l3, l4, some (.inl x0)], [], μ, 0, 0) := mm_W_eq rf_hk_mono _
set_option maxRecDepth 8000 in
theorem r_cutOne_118 (ret : Option mV → rf_M → Prop) (μ : rf_M) (y : Int32) (l0 l1 l3 l4 l5 : Option mV) : W_cutOne ret (118, [l0, l1, some (.inl y), l3, l4, l5], [], μ, 0, 0) = W_cutOne ret (119, [l0, l1, some (.inl y), l3, l4, l5], [.inl y], μ, 0, 0) := mm_W_eq rf_hk_mono _
set_option maxRecDepth 8000 in
theorem r_cutOne_119 (ret : Option mV → rf_M → Prop) (μ : rf_M) (x0 y : Int32) (l0 l1 l2 l4 l5 : Option mV) : W_cutOne ret (119, [l0, l1, l2, some (.inl y), l4, l5], [.inl x0], μ, 0, 0) = W_cutOne ret (120, [l0, l1, l2, some (.inl y), l4, l5], [.inl y, .inl x0], μ, 0, 0) := mm_W_eq rf_hk_mono _
set_option maxRecDepth 8000 in
theorem r_cutOne_120 (ret : Option mV → rf_M → Prop) (μ : rf_M) (x0 x1 : Int32) (ls : List (Option mV)) : W_cutOne ret (120, ls, [.inl x0, .inl x1], μ, 0, 0) = W_cutOne ret (121, ls, [.inl (x1 + x0)], μ, 0, 0) := mm_W_eq rf_hk_mono _
set_option maxRecDepth 8000 in
theorem r_cutOne_121 (ret : Option mV → rf_M → Prop) (μ : rf_M) (x0 y : Int32) (l0 l1 l2 l3 l4 : Option mV) : W_cutOne ret (121, [l0, l1, l2, l3, l4, some (.inl y)], [.inl x0], μ, 0, 0) = W_cutOne ret (123, [l0, l1, l2, l3, l4, some (.inl y)], [.inl y, .inl x0], μ, 0, 0) := mm_W_eq rf_hk_mono _
set_option maxRecDepth 8000 in
theorem r_cutOne_123 (ret : Option mV → rf_M → Prop) (μ : rf_M) (x0 x1 : Int32) (ls : List (Option mV)) : W_cutOne ret (123, ls, [.inl x0, .inl x1], μ, 0, 0) = ((x0 < x1 → W_cutOne ret (141, ls, [], μ, 0, 0)) ∧ (¬ x0 < x1 → W_cutOne ret (126, ls, [], μ, 0, 0))) := mm_W_eq rf_hk_mono _
set_option maxRecDepth 8000 in
theorem r_cutOne_126 (ret : Option mV → rf_M → Prop) (μ : rf_M) (l1 l2 l3 l4 l5 : Option mV) : W_cutOne ret (126, [some (.inr (some 39)), l1, l2, l3, l4, l5], [], μ, 0, 0) = W_cutOne ret (127, [some (.inr (some 39)), l1, l2, l3, l4, l5], [.inr (some 39)], μ, 0, 0) := mm_W_eq rf_hk_mono _
set_option maxRecDepth 8000 in
theorem r_cutOne_127 (ret : Option mV → rf_M → Prop) (μ : rf_M) (l1 l2 l3 l4 l5 : Option mV) : W_cutOne ret (127, [some (.inr (some 39)), l1, l2, l3, l4, l5], [.inr (some 39)], μ, 0, 0) = W_cutOne ret (128, [some (.inr (some 39)), l1, l2, l3, l4, l5], [.inr (some 39), .inr (some 39)], μ, 0, 0) := mm_W_eq rf_hk_mono _
set_option maxRecDepth 8000 in
theorem r_cutOne_128 (ret : Option mV → rf_M → Prop) (μ : rf_M) (ls : List (Option mV)) : W_cutOne ret (128, ls, [.inr (some 39), .inr (some 39)], μ, 0, 0) = W_cutOne ret (131, ls, [.inr (some 1), .inr (some 39)], μ, 0, 0) := mm_W_eq rf_hk_mono _
set_option maxRecDepth 8000 in
theorem r_cutOne_131 (ret : Option mV → rf_M → Prop) (μ : rf_M) (y : Int32) (l0 l2 l3 l4 l5 : Option mV) : W_cutOne ret (131, [l0, some (.inl y), l2, l3, l4, l5], [.inr (some 1), .inr (some 39)], μ, 0, 0) = W_cutOne ret (132, [l0, some (.inl y), l2, l3, l4, l5], [.inl y, .inr (some 1), .inr (some 39)], μ, 0, 0) := mm_W_eq rf_hk_mono _
set_option maxRecDepth 8000 in
theorem r_cutOne_132 (ret : Option mV → rf_M → Prop) (μ : rf_M) (x0 : Int32) (ls : List (Option mV)) : W_cutOne ret (132, ls, [.inl x0, .inr (some 1), .inr (some 39)], μ, 0, 0) = (vp_in x0 20480 ∧ W_cutOne ret (133, ls, [.inl (μ.2 1 x0.toNatClampNeg), .inr (some 39)], μ, 0, 0)) := mm_W_eq rf_hk_mono _
set_option maxRecDepth 8000 in
theorem r_cutOne_133 (ret : Option mV → rf_M → Prop) (μ : rf_M) (x0 y : Int32) (l0 l1 l3 l4 l5 : Option mV) : W_cutOne ret (133, [l0, l1, some (.inl y), l3, l4, l5], [.inl x0, .inr (some 39)], μ, 0, 0) = W_cutOne ret (134, [l0, l1, some (.inl y), l3, l4, l5], [.inl y, .inl x0, .inr (some 39)], μ, 0, 0) := mm_W_eq rf_hk_mono _
set_option maxRecDepth 8000 in
theorem r_cutOne_134 (ret : Option mV → rf_M → Prop) (μ : rf_M) (x0 x1 y : Int32) (l0 l1 l2 l4 l5 : Option mV) : W_cutOne ret (134, [l0, l1, l2, some (.inl y), l4, l5], [.inl x0, .inl x1, .inr (some 39)], μ, 0, 0) = W_cutOne ret (135, [l0, l1, l2, some (.inl y), l4, l5], [.inl y, .inl x0, .inl x1, .inr (some 39)], μ, 0, 0) := mm_W_eq rf_hk_mono _
set_option maxRecDepth 8000 in
theorem r_cutOne_135 (ret : Option mV → rf_M → Prop) (μ : rf_M) (x0 x1 x2 : Int32) (ls : List (Option mV)) : W_cutOne ret (135, ls, [.inl x0, .inl x1, .inl x2, .inr (some 39)], μ, 0, 0) = (∃ Q0 : rf_M → Prop, P_toCut [.inr (some 39), .inl x2, .inl x1, .inl x0] μ 0 0 (mN Q0) ∧ ∀ s', Q0 s' → W_cutOne ret (138, ls, [], s', 0, 0)) := mm_W_eq rf_hk_mono _
set_option maxRecDepth 8000 in
theorem r_cutOne_138 (ret : Option mV → rf_M → Prop) (μ : rf_M) (ls : List (Option mV)) : W_cutOne ret (138, ls, [], μ, 0, 0) = W_cutOne ret (206, ls, [], μ, 0, 0) := mm_W_eq rf_hk_mono _
set_option maxRecDepth 8000 in
theorem r_cutOne_141 (ret : Option mV → rf_M → Prop) (μ : rf_M) (y : Int32) (l0 l1 l3 l4 l5 : Option mV) : W_cutOne ret (141, [l0, l1, some (.inl y), l3, l4, l5], [], μ, 0, 0) = W_cutOne ret (142, [l0, l1, some (.inl y), l3, l4, l5], [.inl y], μ, 0, 0) := mm_W_eq rf_hk_mono _
set_option maxRecDepth 8000 in
theorem r_cutOne_142 (ret : Option mV → rf_M → Prop) (μ : rf_M) (x0 y : Int32) (l0 l1 l2 l3 l4 : Option mV) : W_cutOne ret (142, [l0, l1, l2, l3, l4, some (.inl y)], [.inl x0], μ, 0, 0) = W_cutOne ret (144, [l0, l1, l2, l3, l4, some (.inl y)], [.inl y, .inl x0], μ, 0, 0) := mm_W_eq rf_hk_mono _
set_option maxRecDepth 8000 in
theorem r_cutOne_144 (ret : Option mV → rf_M → Prop) (μ : rf_M) (x0 x1 : Int32) (ls : List (Option mV)) : W_cutOne ret (144, ls, [.inl x0, .inl x1], μ, 0, 0) = ((x1 < x0 → W_cutOne ret (165, ls, [], μ, 0, 0)) ∧ (¬ x1 < x0 → W_cutOne ret (147, ls, [], μ, 0, 0))) := mm_W_eq rf_hk_mono _
set_option maxRecDepth 8000 in
theorem r_cutOne_147 (ret : Option mV → rf_M → Prop) (μ : rf_M) (l1 l2 l3 l4 l5 : Option mV) : W_cutOne ret (147, [some (.inr (some 39)), l1, l2, l3, l4, l5], [], μ, 0, 0) = W_cutOne ret (148, [some (.inr (some 39)), l1, l2, l3, l4, l5], [.inr (some 39)], μ, 0, 0) := mm_W_eq rf_hk_mono _
set_option maxRecDepth 8000 in
theorem r_cutOne_148 (ret : Option mV → rf_M → Prop) (μ : rf_M) (l1 l2 l3 l4 l5 : Option mV) : W_cutOne ret (148, [some (.inr (some 39)), l1, l2, l3, l4, l5], [.inr (some 39)], μ, 0, 0) = W_cutOne ret (149, [some (.inr (some 39)), l1, l2, l3, l4, l5], [.inr (some 39), .inr (some 39)], μ, 0, 0) := mm_W_eq rf_hk_mono _
set_option maxRecDepth 8000 in
theorem r_cutOne_149 (ret : Option mV → rf_M → Prop) (μ : rf_M) (ls : List (Option mV)) : W_cutOne ret (149, ls, [.inr (some 39), .inr (some 39)], μ, 0, 0) = W_cutOne ret (152, ls, [.inr (some 2), .inr (some 39)], μ, 0, 0) := mm_W_eq rf_hk_mono _
set_option maxRecDepth 8000 in
theorem r_cutOne_152 (ret : Option mV → rf_M → Prop) (μ : rf_M) (y : Int32) (l0 l2 l3 l4 l5 : Option mV) : W_cutOne ret (152, [l0, some (.inl y), l2, l3, l4, l5], [.inr (some 2), .inr (some 39)], μ, 0, 0) = W_cutOne ret (153, [l0, some (.inl y), l2, l3, l4, l5], [.inl y, .inr (some 2), .inr (some 39)], μ, 0, 0) := mm_W_eq rf_hk_mono _
set_option maxRecDepth 8000 in
theorem r_cutOne_153 (ret : Option mV → rf_M → Prop) (μ : rf_M) (x0 : Int32) (ls : List (Option mV)) : W_cutOne ret (153, ls, [.inl x0, .inr (some 2), .inr (some 39)], μ, 0, 0) = (vp_in x0 20480 ∧ W_cutOne ret (154, ls, [.inl (μ.2 2 x0.toNatClampNeg), .inr (some 39)], μ, 0, 0)) := mm_W_eq rf_hk_mono _
set_option maxRecDepth 8000 in
theorem r_cutOne_154 (ret : Option mV → rf_M → Prop) (μ : rf_M) (x0 y : Int32) (l0 l1 l3 l4 l5 : Option mV) : W_cutOne ret (154, [l0, l1, some (.inl y), l3, l4, l5], [.inl x0, .inr (some 39)], μ, 0, 0) = W_cutOne ret (155, [l0, l1, some (.inl y), l3, l4, l5], [.inl y, .inl x0, .inr (some 39)], μ, 0, 0) := mm_W_eq rf_hk_mono _
set_option maxRecDepth 8000 in
theorem r_cutOne_155 (ret : Option mV → rf_M → Prop) (μ : rf_M) (x0 x1 y : Int32) (l0 l1 l2 l3 l4 : Option mV) : W_cutOne ret (155, [l0, l1, l2, l3, l4, some (.inl y)], [.inl x0, .inl x1, .inr (some 39)], μ, 0, 0) = W_cutOne ret (157, [l0, l1, l2, l3, l4, some (.inl y)], [.inl y, .inl x0, .inl x1, .inr (some 39)], μ, 0, 0) := mm_W_eq rf_hk_mono _
set_option maxRecDepth 8000 in
theorem r_cutOne_157 (ret : Option mV → rf_M → Prop) (μ : rf_M) (x0 x1 x2 : Int32) (ls : List (Option mV)) : W_cutOne ret (157, ls, [.inl x0, .inl x1, .inl x2, .inr (some 39)], μ, 0, 0) = W_cutOne ret (158, ls, [.inl (x1 - x0), .inl x2, .inr (some 39)], μ, 0, 0) := mm_W_eq rf_hk_mono _
set_option maxRecDepth 8000 in
theorem r_cutOne_158 (ret : Option mV → rf_M → Prop) (μ : rf_M) (x0 x1 y : Int32) (l0 l1 l2 l4 l5 : Option mV) : W_cutOne ret (158, [l0, l1, l2, some (.inl y), l4, l5], [.inl x0, .inl x1, .inr (some 39)], μ, 0, 0) = W_cutOne ret (159, [l0, l1, l2, some (.inl y), l4, l5], [.inl y, .inl x0, .inl x1, .inr (some 39)], μ, 0, 0) := mm_W_eq rf_hk_mono _
set_option maxRecDepth 8000 in
theorem r_cutOne_159 (ret : Option mV → rf_M → Prop) (μ : rf_M) (x0 x1 x2 : Int32) (ls : List (Option mV)) : W_cutOne ret (159, ls, [.inl x0, .inl x1, .inl x2, .inr (some 39)], μ, 0, 0) = (∃ Q0 : rf_M → Prop, P_toCut [.inr (some 39), .inl x2, .inl x1, .inl x0] μ 0 0 (mN Q0) ∧ ∀ s', Q0 s' → W_cutOne ret (162, ls, [], s', 0, 0)) := mm_W_eq rf_hk_mono _
set_option maxRecDepth 8000 in
theorem r_cutOne_162 (ret : Option mV → rf_M → Prop) (μ : rf_M) (ls : List (Option mV)) : W_cutOne ret (162, ls, [], μ, 0, 0) = W_cutOne ret (206, ls, [], μ, 0, 0) := mm_W_eq rf_hk_mono _
set_option maxRecDepth 8000 in
theorem r_cutOne_165 (ret : Option mV → rf_M → Prop) (μ : rf_M) (l1 l2 l3 l4 l5 : Option mV) : W_cutOne ret (165, [some (.inr (some 39)), l1, l2, l3, l4, l5], [], μ, 0, 0) = W_cutOne ret (166, [some (.inr (some 39)), l1, l2, l3, l4, l5], [.inr (some 39)], μ, 0, 0) := mm_W_eq rf_hk_mono _
set_option maxRecDepth 8000 in
theorem r_cutOne_166 (ret : Option mV → rf_M → Prop) (μ : rf_M) (ls : List (Option mV)) : W_cutOne ret (166, ls, [.inr (some 39)], μ, 0, 0) = W_cutOne ret (168, ls, [.inl (Int32.ofInt (-6)), .inr (some 39)], μ, 0, 0) := mm_W_eq rf_hk_mono _
set_option maxRecDepth 8000 in
theorem r_cutOne_168 (ret : Option mV → rf_M → Prop) (μ : rf_M) (x0 : Int32) (ls : List (Option mV)) : W_cutOne ret (168, ls, [.inl x0, .inr (some 39)], μ, 0, 0) = W_cutOne ret (169, ls, [.inl (nI 0), .inl x0, .inr (some 39)], μ, 0, 0) := mm_W_eq rf_hk_mono _
set_option maxRecDepth 8000 in
theorem r_cutOne_169 (ret : Option mV → rf_M → Prop) (μ : rf_M) (x0 x1 : Int32) (ls : List (Option mV)) : W_cutOne ret (169, ls, [.inl x0, .inl x1, .inr (some 39)], μ, 0, 0) = W_cutOne ret (171, ls, [.inl (Int32.ofInt (-6)), .inl x0, .inl x1, .inr (some 39)], μ, 0, 0) := mm_W_eq rf_hk_mono _
set_option maxRecDepth 8000 in
theorem r_cutOne_171 (ret : Option mV → rf_M → Prop) (μ : rf_M) (x0 x1 x2 : Int32) (ls : List (Option mV)) : W_cutOne ret (171, ls, [.inl x0, .inl x1, .inl x2, .inr (some 39)], μ, 0, 0) = (∃ Q0 : rf_M → Prop, P_toCut [.inr (some 39), .inl x2, .inl x1, .inl x0] μ 0 0 (mN Q0) ∧ ∀ s', Q0 s' → W_cutOne ret (174, ls, [], s', 0, 0)) := mm_W_eq rf_hk_mono _
set_option maxRecDepth 8000 in
theorem r_cutOne_174 (ret : Option mV → rf_M → Prop) (μ : rf_M) (l1 l2 l3 l4 l5 : Option mV) : W_cutOne ret (174, [some (.inr (some 39)), l1, l2, l3, l4, l5], [], μ, 0, 0) = W_cutOne ret (175, [some (.inr (some 39)), l1, l2, l3, l4, l5], [.inr (some 39)], μ, 0, 0) := mm_W_eq rf_hk_mono _
set_option maxRecDepth 8000 in
theorem r_cutOne_175 (ret : Option mV → rf_M → Prop) (μ : rf_M) (l1 l2 l3 l4 l5 : Option mV) : W_cutOne ret (175, [some (.inr (some 39)), l1, l2, l3, l4, l5], [.inr (some 39)], μ, 0, 0) = W_cutOne ret (176, [some (.inr (some 39)), l1, l2, l3, l4, l5], [.inr (some 39), .inr (some 39)], μ, 0, 0) := mm_W_eq rf_hk_mono _
set_option maxRecDepth 8000 in
theorem r_cutOne_176 (ret : Option mV → rf_M → Prop) (μ : rf_M) (ls : List (Option mV)) : W_cutOne ret (176, ls, [.inr (some 39), .inr (some 39)], μ, 0, 0) = W_cutOne ret (179, ls, [.inr (some 2), .inr (some 39)], μ, 0, 0) := mm_W_eq rf_hk_mono _
set_option maxRecDepth 8000 in
theorem r_cutOne_179 (ret : Option mV → rf_M → Prop) (μ : rf_M) (y : Int32) (l0 l2 l3 l4 l5 : Option mV) : W_cutOne ret (179, [l0, some (.inl y), l2, l3, l4, l5], [.inr (some 2), .inr (some 39)], μ, 0, 0) = W_cutOne ret (180, [l0, some (.inl y), l2, l3, l4, l5], [.inl y, .inr (some 2), .inr (some 39)], μ, 0, 0) := mm_W_eq rf_hk_mono _
set_option maxRecDepth 8000 in
theorem r_cutOne_180 (ret : Option mV → rf_M → Prop) (μ : rf_M) (x0 : Int32) (ls : List (Option mV)) : W_cutOne ret (180, ls, [.inl x0, .inr (some 2), .inr (some 39)], μ, 0, 0) = (vp_in x0 20480 ∧ W_cutOne ret (181, ls, [.inl (μ.2 2 x0.toNatClampNeg), .inr (some 39)], μ, 0, 0)) := mm_W_eq rf_hk_mono _
set_option maxRecDepth 8000 in
theorem r_cutOne_181 (ret : Option mV → rf_M → Prop) (μ : rf_M) (x0 : Int32) (ls : List (Option mV)) : W_cutOne ret (181, ls, [.inl x0, .inr (some 39)], μ, 0, 0) = W_cutOne ret (182, ls, [.inl (nI 0), .inl x0, .inr (some 39)], μ, 0, 0) := mm_W_eq rf_hk_mono _
set_option maxRecDepth 8000 in
theorem r_cutOne_182 (ret : Option mV → rf_M → Prop) (μ : rf_M) (x0 x1 y : Int32) (l0 l1 l3 l4 l5 : Option mV) : W_cutOne ret (182, [l0, l1, some (.inl y), l3, l4, l5], [.inl x0, .inl x1, .inr (some 39)], μ, 0, 0) = W_cutOne ret (183, [l0, l1, some (.inl y), l3, l4, l5], [.inl y, .inl x0, .inl x1, .inr (some 39)], μ, 0, 0) := mm_W_eq rf_hk_mono _
set_option maxRecDepth 8000 in
theorem r_cutOne_183 (ret : Option mV → rf_M → Prop) (μ : rf_M) (x0 x1 x2 y : Int32) (l0 l1 l2 l4 l5 : Option mV) : W_cutOne ret (183, [l0, l1, l2, some (.inl y), l4, l5], [.inl x0, .inl x1, .inl x2, .inr (some 39)], μ, 0, 0) = W_cutOne ret (184, [l0, l1, l2, some (.inl y), l4, l5], [.inl y, .inl x0, .inl x1, .inl x2, .inr (some 39)], μ, 0, 0) := mm_W_eq rf_hk_mono _
set_option maxRecDepth 8000 in
theorem r_cutOne_184 (ret : Option mV → rf_M → Prop) (μ : rf_M) (x0 x1 x2 x3 : Int32) (ls : List (Option mV)) : W_cutOne ret (184, ls, [.inl x0, .inl x1, .inl x2, .inl x3, .inr (some 39)], μ, 0, 0) = W_cutOne ret (185, ls, [.inl (x1 + x0), .inl x2, .inl x3, .inr (some 39)], μ, 0, 0) := mm_W_eq rf_hk_mono _
set_option maxRecDepth 8000 in
theorem r_cutOne_185 (ret : Option mV → rf_M → Prop) (μ : rf_M) (x0 x1 x2 y : Int32) (l0 l1 l2 l3 l4 : Option mV) : W_cutOne ret (185, [l0, l1, l2, l3, l4, some (.inl y)], [.inl x0, .inl x1, .inl x2, .inr (some 39)], μ, 0, 0) = W_cutOne ret (187, [l0, l1, l2, l3, l4, some (.inl y)], [.inl y, .inl x0, .inl x1, .inl x2, .inr (some 39)], μ, 0, 0) := mm_W_eq rf_hk_mono _
set_option maxRecDepth 8000 in
theorem r_cutOne_187 (ret : Option mV → rf_M → Prop) (μ : rf_M) (x0 x1 x2 x3 : Int32) (ls : List (Option mV)) : W_cutOne ret (187, ls, [.inl x0, .inl x1, .inl x2, .inl x3, .inr (some 39)], μ, 0, 0) = W_cutOne ret (188, ls, [.inl (x1 - x0), .inl x2, .inl x3, .inr (some 39)], μ, 0, 0) := mm_W_eq rf_hk_mono _
set_option maxRecDepth 8000 in
theorem r_cutOne_188 (ret : Option mV → rf_M → Prop) (μ : rf_M) (x0 x1 x2 : Int32) (ls : List (Option mV)) : W_cutOne ret (188, ls, [.inl x0, .inl x1, .inl x2, .inr (some 39)], μ, 0, 0) = (∃ Q0 : rf_M → Prop, P_toCut [.inr (some 39), .inl x2, .inl x1, .inl x0] μ 0 0 (mN Q0) ∧ ∀ s', Q0 s' → W_cutOne ret (191, ls, [], s', 0, 0)) := mm_W_eq rf_hk_mono _
set_option maxRecDepth 8000 in
theorem r_cutOne_191 (ret : Option mV → rf_M → Prop) (μ : rf_M) (l1 l2 l3 l4 l5 : Option mV) : W_cutOne ret (191, [some (.inr (some 39)), l1, l2, l3, l4, l5], [], μ, 0, 0) = W_cutOne ret (192, [some (.inr (some 39)), l1, l2, l3, l4, l5], [.inr (some 39)], μ, 0, 0) := mm_W_eq rf_hk_mono _
set_option maxRecDepth 8000 in
theorem r_cutOne_192 (ret : Option mV → rf_M → Prop) (μ : rf_M) (l1 l2 l3 l4 l5 : Option mV) : W_cutOne ret (192, [some (.inr (some 39)), l1, l2, l3, l4, l5], [.inr (some 39)], μ, 0, 0) = W_cutOne ret (193, [some (.inr (some 39)), l1, l2, l3, l4, l5], [.inr (some 39), .inr (some 39)], μ, 0, 0) := mm_W_eq rf_hk_mono _
set_option maxRecDepth 8000 in
theorem r_cutOne_193 (ret : Option mV → rf_M → Prop) (μ : rf_M) (ls : List (Option mV)) : W_cutOne ret (193, ls, [.inr (some 39), .inr (some 39)], μ, 0, 0) = W_cutOne ret (196, ls, [.inr (some 1), .inr (some 39)], μ, 0, 0) := mm_W_eq rf_hk_mono _
set_option maxRecDepth 8000 in
theorem r_cutOne_196 (ret : Option mV → rf_M → Prop) (μ : rf_M) (y : Int32) (l0 l2 l3 l4 l5 : Option mV) : W_cutOne ret (196, [l0, some (.inl y), l2, l3, l4, l5], [.inr (some 1), .inr (some 39)], μ, 0, 0) = W_cutOne ret (197, [l0, some (.inl y), l2, l3, l4, l5], [.inl y, .inr (some 1), .inr (some 39)], μ, 0, 0) := mm_W_eq rf_hk_mono _
set_option maxRecDepth 8000 in
theorem r_cutOne_197 (ret : Option mV → rf_M → Prop) (μ : rf_M) (x0 : Int32) (ls : List (Option mV)) : W_cutOne ret (197, ls, [.inl x0, .inr (some 1), .inr (some 39)], μ, 0, 0) = (vp_in x0 20480 ∧ W_cutOne ret (198, ls, [.inl (μ.2 1 x0.toNatClampNeg), .inr (some 39)], μ, 0, 0)) := mm_W_eq rf_hk_mono _
set_option maxRecDepth 8000 in
theorem r_cutOne_198 (ret : Option mV → rf_M → Prop) (μ : rf_M) (x0 y : Int32) (l0 l1 l3 l4 l5 : Option mV) : W_cutOne ret (198, [l0, l1, some (.inl y), l3, l4, l5], [.inl x0, .inr (some 39)], μ, 0, 0) = W_cutOne ret (199, [l0, l1, some (.inl y), l3, l4, l5], [.inl y, .inl x0, .inr (some 39)], μ, 0, 0) := mm_W_eq rf_hk_mono _
set_option maxRecDepth 8000 in
theorem r_cutOne_199 (ret : Option mV → rf_M → Prop) (μ : rf_M) (x0 x1 y : Int32) (l0 l1 l2 l3 l4 : Option mV) : W_cutOne ret (199, [l0, l1, l2, l3, l4, some (.inl y)], [.inl x0, .inl x1, .inr (some 39)], μ, 0, 0) = W_cutOne ret (201, [l0, l1, l2, l3, l4, some (.inl y)], [.inl y, .inl x0, .inl x1, .inr (some 39)], μ, 0, 0) := mm_W_eq rf_hk_mono _
set_option maxRecDepth 8000 in
theorem r_cutOne_201 (ret : Option mV → rf_M → Prop) (μ : rf_M) (x0 x1 x2 y : Int32) (l0 l1 l3 l4 l5 : Option mV) : W_cutOne ret (201, [l0, l1, some (.inl y), l3, l4, l5], [.inl x0, .inl x1, .inl x2, .inr (some 39)], μ, 0, 0) = W_cutOne ret (202, [l0, l1, some (.inl y), l3, l4, l5], [.inl y, .inl x0, .inl x1, .inl x2, .inr (some 39)], μ, 0, 0) := mm_W_eq rf_hk_mono _
set_option maxRecDepth 8000 in
theorem r_cutOne_202 (ret : Option mV → rf_M → Prop) (μ : rf_M) (x0 x1 x2 x3 : Int32) (ls : List (Option mV)) : W_cutOne ret (202, ls, [.inl x0, .inl x1, .inl x2, .inl x3, .inr (some 39)], μ, 0, 0) = W_cutOne ret (203, ls, [.inl (x1 - x0), .inl x2, .inl x3, .inr (some 39)], μ, 0, 0) := mm_W_eq rf_hk_mono _
set_option maxRecDepth 8000 in
theorem r_cutOne_203 (ret : Option mV → rf_M → Prop) (μ : rf_M) (x0 x1 x2 : Int32) (ls : List (Option mV)) : W_cutOne ret (203, ls, [.inl x0, .inl x1, .inl x2, .inr (some 39)], μ, 0, 0) = (∃ Q0 : rf_M → Prop, P_toCut [.inr (some 39), .inl x2, .inl x1, .inl x0] μ 0 0 (mN Q0) ∧ ∀ s', Q0 s' → W_cutOne ret (206, ls, [], s', 0, 0)) := mm_W_eq rf_hk_mono _
set_option maxRecDepth 8000 in
theorem r_cutOne_206 (ret : Option mV → rf_M → Prop) (μ : rf_M) (y : Int32) (l0 l1 l2 l3 l5 : Option mV) : W_cutOne ret (206, [l0, l1, l2, l3, some (.inl y), l5], [], μ, 0, 0) = W_cutOne ret (208, [l0, l1, l2, l3, some (.inl y), l5], [.inl y], μ, 0, 0) := mm_W_eq rf_hk_mono _
set_option maxRecDepth 8000 in
theorem r_cutOne_208 (ret : Option mV → rf_M → Prop) (μ : rf_M) (x0 : Int32) (ls : List (Option mV)) : W_cutOne ret (208, ls, [.inl x0], μ, 0, 0) = ret (some (.inl x0)) μ := mm_W_eq rf_hk_mono _
theorem e_cutOne (a0 a1 a2 a3 : Int32) (μ : rf_M) (ret : Option mV → rf_M → Prop) (h : W_cutOne ret (0, [some (.inr (some 39)), some (.inl a0), some (.inl a1), some (.inl a2), some (.inl a3), none], [], μ, 0, 0)) : P_cutOne [.inr (some 39), .inl a0, .inl a1, .inl a2, .inl a3] μ 0 0 ret := ⟨rfl, Nat.le_of_ble_eq_true rfl, h⟩
theorem so_cutOne (l : Launch) (D : va_G) (cs sa ad : Nat → Nat) (A : Nat → Prop) : mm_So l (rf_W D cs ad A) (kk D cs sa A) ad A yX7_cutOne cX7_cutOne 6 (some .int) 3 P_cutOne := rf_So (rf_sound (by decide) (by decide +kernel) rfl (fun p e mc ms s0 m args below meth c F hK hA => List.forall_mem_cons.mpr ⟨mm_CSV F hK (kk_KW D cs sa A) hA (so_newLeaf l D cs sa ad A) (by decide) (by decide) wd_594 wd_596 wd_21 wd_56 wd_597 ⟨rfl, by decide, by decide, rfl⟩ (rf_recv hK), List.forall_mem_cons.mpr ⟨mm_CSV F hK (kk_KW D cs sa A) hA (so_cutLeaf l D cs sa ad A) (by decide) (by decide) wd_812 wd_814 wd_38 wd_56 wd_815 ⟨rfl, by decide, by decide, rfl⟩ (rf_recv hK), List.forall_mem_cons.mpr ⟨mm_CSV F hK (kk_KW D cs sa A) hA (so_toCut l D cs sa ad A) (by decide) (by decide) wd_804 wd_806 wd_36 wd_56 wd_807 ⟨rfl, by decide, by decide, rfl⟩ (rf_recv hK), fun _ h => absurd h List.not_mem_nil⟩⟩⟩))
/-! told -/
def cd_told : mC := [(0, .iload_n 1, 1), (1, .invokestatic 181, 3), (4, .ifCond .ne 5, 3), (7, .iconst (-1), 1), (8, .ireturn, 1), (9, .aload_n 0, 1), (10, .getfield 34, 3), (13, .iload_n 1, 1), (14, .iaload, 1), (15, .istore_n 3, 1), (16, .iload_n 2, 1), (17, .tableswitch 115 0 6 #[43, 50, 59, 65, 76, 86, 101], 43), (60, .aload_n 0, 1), (61, .getfield 19, 3), (64, .iload_n 3, 1), (65, .iaload, 1), (66, .ireturn, 1), (67, .aload_n 0, 1), (68, .getfield 7, 3), (71, .iload_n 3, 1), (72, .iaload, 1), (73, .iconst 1, 1), (74, .isub, 1), (75, .ireturn, 1), (76, .aload_n 0, 1), (77, .iload_n 3, 1), (78, .invokevirtual 138, 3), (81, .ireturn, 1), (82, .aload_n 0, 1), (83, .iload_n 3, 1), (84, .invokevirtual 138, 3), (87, .pop, 1), (88, .aload_n 0, 1), (89, .getfield 135, 3), (92, .ireturn, 1), (93, .aload_n 0, 1), (94, .invokevirtual 123, 3), (97, .aload_n 0, 1), (98, .iload_n 3, 1), (99, .invokevirtual 126, 3), (102, .ireturn, 1), (103, .aload_n 0, 1), (104, .invokevirtual 123, 3), (107, .aload_n 0, 1), (108, .iload_n 3, 1), (109, .invokevirtual 126, 3), (112, .pop, 1), (113, .aload_n 0, 1), (114, .invokevirtual 194, 3), (117, .ireturn, 1), (118, .aload_n 0, 1), (119, .iload_n 1, 1), (120, .invokevirtual 197, 3), (123, .ifCond .eq 7, 3), (126, .iconst 1, 1), (127, .goto 4, 3), (130, .iconst 0, 1), (131, .ireturn, 1), (132, .bipush (-2), 2), (134, .ireturn, 1)]
def sp_told : mQ rf_M := [((1, 181), 1, 1, P_isSlot), ((0, 138), 2, 1, P_layPieces), ((0, 123), 1, 0, P_clearMarks), ((0, 126), 2, 1, P_mark), ((0, 194), 1, 1, P_roomOfMarked), ((0, 197), 2, 1, P_isWide)]
def W_told (ret : Option mV → rf_M → Prop) : mX rf_M → Prop := mm_W 1 cd_told rf_hk sp_told ret
def P_told : mP rf_M := rf_P (mm_Pm 1 cd_told rf_hk sp_told 4)
theorem r_told_0 (ret : Option mV → rf_M → Prop) (μ : rf_M) (y : Int32) (l0 l2 l3 : Option mV) : W_told ret (0, [l0, some (.inl y), l2, l3], [], μ, 0, 0) = W_told ret (1, [l0, some (.inl y), l2, l3], [.inl y], μ, 0, 0) := mm_W_eq rf_hk_mono _
theorem r_told_1 (ret : Option mV → rf_M → Prop) (μ : rf_M) (x0 : Int32) (ls : List (Option mV)) : W_told ret (1, ls, [.inl x0], μ, 0, 0) = (∃ Q0 : Int32 → rf_M → Prop, P_isSlot [.inl x0] μ 0 0 (mI Q0) ∧ ∀ r s', Q0 r s' → W_told ret (4, ls, [.inl r], s', 0, 0)) := mm_W_eq rf_hk_mono _
theorem r_told_4 (ret : Option mV → rf_M → Prop) (μ : rf_M) (x0 : Int32) (ls : List (Option mV)) : W_told ret (4, ls, [.inl x0], μ, 0, 0) = ((¬ x0 = 0 → W_told ret (9, ls, [], μ, 0, 0)) ∧ (¬ (¬ x0 = 0) → W_told ret (7, ls, [], μ, 0, 0))) := mm_W_eq rf_hk_mono _
theorem r_told_7 (ret : Option mV → rf_M → Prop) (μ : rf_M) (ls : List (Option mV)) : W_told ret (7, ls, [], μ, 0, 0) = W_told ret (8, ls, [.inl (Int32.ofInt (-1))], μ, 0, 0) := mm_W_eq rf_hk_mono _
theorem r_told_8 (ret : Option mV → rf_M → Prop) (μ : rf_M) (x0 : Int32) (ls : List (Option mV)) : W_told ret (8, ls, [.inl x0], μ, 0, 0) = ret (some (.inl x0)) μ := mm_W_eq rf_hk_mono _
theorem r_told_9 (ret : Option mV → rf_M → Prop) (μ : rf_M) (l1 l2 l3 : Option mV) : W_told ret (9, [some (.inr (some 39)), l1, l2, l3], [], μ, 0, 0) = W_told ret (10, [some (.inr (some 39)), l1, l2, l3], [.inr (some 39)], μ, 0, 0) := mm_W_eq rf_hk_mono _
theorem r_told_10 (ret : Option mV → rf_M → Prop) (μ : rf_M) (ls : List (Option mV)) : W_told ret (10, ls, [.inr (some 39)], μ, 0, 0) = W_told ret (13, ls, [.inr (some 9)], μ, 0, 0) := mm_W_eq rf_hk_mono _
theorem r_told_13 (ret : Option mV → rf_M → Prop) (μ : rf_M) (y : Int32) (l0 l2 l3 : Option mV) : W_told ret (13, [l0, some (.inl y), l2, l3], [.inr (some 9)], μ, 0, 0) = W_told ret (14, [l0, some (.inl y), l2, l3], [.inl y, .inr (some 9)], μ, 0, 0) := mm_W_eq rf_hk_mono _
theorem r_told_14 (ret : Option mV → rf_M → Prop) (μ : rf_M) (x0 : Int32) (ls : List (Option mV)) : W_told ret (14, ls, [.inl x0, .inr (some 9)], μ, 0, 0) = (vp_in x0 8 ∧ W_told ret (15, ls, [.inl (μ.2 9 x0.toNatClampNeg)], μ, 0, 0)) := mm_W_eq rf_hk_mono _
theorem r_told_15 (ret : Option mV → rf_M → Prop) (μ : rf_M) (x0 : Int32) (l0 l1 l2 l3 : Option mV) : W_told ret (15, [l0, l1, l2, l3], [.inl x0], μ, 0, 0) = W_told ret (16, [l0, l1, l2, some (.inl x0)], [], μ, 0, 0) := mm_W_eq rf_hk_mono _
theorem r_told_16 (ret : Option mV → rf_M → Prop) (μ : rf_M) (y : Int32) (l0 l1 l3 : Option mV) : W_told ret (16, [l0, l1, some (.inl y), l3], [], μ, 0, 0) = W_told ret (17, [l0, l1, some (.inl y), l3], [.inl y], μ, 0, 0) := mm_W_eq rf_hk_mono _
theorem r_told_17 (ret : Option mV → rf_M → Prop) (μ : rf_M) (x0 : Int32) (ls : List (Option mV)) : W_told ret (17, ls, [.inl x0], μ, 0, 0) = (((x0.toInt < 0 ∨ 6 < x0.toInt) → W_told ret (132, ls, [], μ, 0, 0)) ∧ (x0.toInt = 0 → W_told ret (60, ls, [], μ, 0, 0)) ∧ (x0.toInt = 1 → W_told ret (67, ls, [], μ, 0, 0)) ∧ (x0.toInt = 2 → W_told ret (76, ls, [], μ, 0, 0)) ∧ (x0.toInt = 3 → W_told ret (82, ls, [], μ, 0, 0)) ∧ (x0.toInt = 4 → W_told ret (93, ls, [], μ, 0, 0)) ∧ (x0.toInt = 5 → W_told ret (103, ls, [], μ, 0, 0)) ∧ (x0.toInt = 6 → W_told ret (118, ls, [], μ, 0, 0)) ∧ True) := mm_W_eq rf_hk_mono _
theorem r_told_60 (ret : Option mV → rf_M → Prop) (μ : rf_M) (l1 l2 l3 : Option mV) : W_told ret (60, [some (.inr (some 39)), l1, l2, l3], [], μ, 0, 0) = W_told ret (61, [some (.inr (some 39)), l1, l2, l3], [.inr (some 39)], μ, 0, 0) := mm_W_eq rf_hk_mono _
set_option maxRecDepth 8000 in
theorem r_told_61 (ret : Option mV → rf_M → Prop) (μ : rf_M) (ls : List (Option mV)) : W_told ret (61, ls, [.inr (some 39)], μ, 0, 0) = W_told ret (64, ls, [.inr (some 3)], μ, 0, 0) := mm_W_eq rf_hk_mono _
set_option maxRecDepth 8000 in
theorem r_told_64 (ret : Option mV → rf_M → Prop) (μ : rf_M) (y : Int32) (l0 l1 l2 : Option mV) : W_told ret (64, [l0, l1, l2, some (.inl y)], [.inr (some 3)], μ, 0, 0) = W_told ret (65, [l0, l1, l2, some (.inl y)], [.inl y, .inr (some 3)], μ, 0, 0) := mm_W_eq rf_hk_mono _
set_option maxRecDepth 8000 in
theorem r_told_65 (ret : Option mV → rf_M → Prop) (μ : rf_M) (x0 : Int32) (ls : List (Option mV)) : W_told ret (65, ls, [.inl x0, .inr (some 3)], μ, 0, 0) = (vp_in x0 20480 ∧ W_told ret (66, ls, [.inl (μ.2 3 x0.toNatClampNeg)], μ, 0, 0)) := mm_W_eq rf_hk_mono _
set_option maxRecDepth 8000 in
theorem r_told_66 (ret : Option mV → rf_M → Prop) (μ : rf_M) (x0 : Int32) (ls : List (Option mV)) : W_told ret (66, ls, [.inl x0], μ, 0, 0) = ret (some (.inl x0)) μ := mm_W_eq rf_hk_mono _
set_option maxRecDepth 8000 in
theorem r_told_67 (ret : Option mV → rf_M → Prop) (μ : rf_M) (l1 l2 l3 : Option mV) : W_told ret (67, [some (.inr (some 39)), l1, l2, l3], [], μ, 0, 0) = W_told ret (68, [some (.inr (some 39)), l1, l2, l3], [.inr (some 39)], μ, 0, 0) := mm_W_eq rf_hk_mono _
set_option maxRecDepth 8000 in
theorem r_told_68 (ret : Option mV → rf_M → Prop) (μ : rf_M) (ls : List (Option mV)) : W_told ret (68, ls, [.inr (some 39)], μ, 0, 0) = W_told ret (71, ls, [.inr (some 0)], μ, 0, 0) := mm_W_eq rf_hk_mono _
set_option maxRecDepth 8000 in
theorem r_told_71 (ret : Option mV → rf_M → Prop) (μ : rf_M) (y : Int32) (l0 l1 l2 : Option mV) : W_told ret (71, [l0, l1, l2, some (.inl y)], [.inr (some 0)], μ, 0, 0) = W_told ret (72, [l0, l1, l2, some (.inl y)], [.inl y, .inr (some 0)], μ, 0, 0) := mm_W_eq rf_hk_mono _
set_option maxRecDepth 8000 in
theorem r_told_72 (ret : Option mV → rf_M → Prop) (μ : rf_M) (x0 : Int32) (ls : List (Option mV)) : W_told ret (72, ls, [.inl x0, .inr (some 0)], μ, 0, 0) = (vp_in x0 20480 ∧ W_told ret (73, ls, [.inl (μ.2 0 x0.toNatClampNeg)], μ, 0, 0)) := mm_W_eq rf_hk_mono _
set_option maxRecDepth 8000 in
theorem r_told_73 (ret : Option mV → rf_M → Prop) (μ : rf_M) (x0 : Int32) (ls : List (Option mV)) : W_told ret (73, ls, [.inl x0], μ, 0, 0) = W_told ret (74, ls, [.inl (nI 1), .inl x0], μ, 0, 0) := mm_W_eq rf_hk_mono _
set_option maxRecDepth 8000 in
theorem r_told_74 (ret : Option mV → rf_M → Prop) (μ : rf_M) (x0 x1 : Int32) (ls : List (Option mV)) : W_told ret (74, ls, [.inl x0, .inl x1], μ, 0, 0) = W_told ret (75, ls, [.inl (x1 - x0)], μ, 0, 0) := mm_W_eq rf_hk_mono _
set_option maxRecDepth 8000 in
theorem r_told_75 (ret : Option mV → rf_M → Prop) (μ : rf_M) (x0 : Int32) (ls : List (Option mV)) : W_told ret (75, ls, [.inl x0], μ, 0, 0) = ret (some (.inl x0)) μ := mm_W_eq rf_hk_mono _
set_option maxRecDepth 8000 in
theorem r_told_76 (ret : Option mV → rf_M → Prop) (μ : rf_M) (l1 l2 l3 : Option mV) : W_told ret (76, [some (.inr (some 39)), l1, l2, l3], [], μ, 0, 0) = W_told ret (77, [some (.inr (some 39)), l1, l2, l3], [.inr (some 39)], μ, 0, 0) := mm_W_eq rf_hk_mono _
set_option maxRecDepth 8000 in
theorem r_told_77 (ret : Option mV → rf_M → Prop) (μ : rf_M) (y : Int32) (l0 l1 l2 : Option mV) : W_told ret (77, [l0, l1, l2, some (.inl y)], [.inr (some 39)], μ, 0, 0) = W_told ret (78, [l0, l1, l2, some (.inl y)], [.inl y, .inr (some 39)], μ, 0, 0) := mm_W_eq rf_hk_mono _
set_option maxRecDepth 8000 in
theorem r_told_78 (ret : Option mV → rf_M → Prop) (μ : rf_M) (x0 : Int32) (ls : List (Option mV)) : W_told ret (78, ls, [.inl x0, .inr (some 39)], μ, 0, 0) = (∃ Q0 : Int32 → rf_M → Prop, P_layPieces [.inr (some 39), .inl x0] μ 0 0 (mI Q0) ∧ ∀ r s', Q0 r s' → W_told ret (81, ls, [.inl r], s', 0, 0)) := mm_W_eq rf_hk_mono _
set_option maxRecDepth 8000 in
theorem r_told_81 (ret : Option mV → rf_M → Prop) (μ : rf_M) (x0 : Int32) (ls : List (Option mV)) : W_told ret (81, ls, [.inl x0], μ, 0, 0) = ret (some (.inl x0)) μ := mm_W_eq rf_hk_mono _
set_option maxRecDepth 8000 in
theorem r_told_82 (ret : Option mV → rf_M → Prop) (μ : rf_M) (l1 l2 l3 : Option mV) : W_told ret (82, [some (.inr (some 39)), l1, l2, l3], [], μ, 0, 0) = W_told ret (83, [some (.inr (some 39)), l1, l2, l3], [.inr (some 39)], μ, 0, 0) := mm_W_eq rf_hk_mono _
set_option maxRecDepth 8000 in
theorem r_told_83 (ret : Option mV → rf_M → Prop) (μ : rf_M) (y : Int32) (l0 l1 l2 : Option mV) : W_told ret (83, [l0, l1, l2, some (.inl y)], [.inr (some 39)], μ, 0, 0) = W_told ret (84, [l0, l1, l2, some (.inl y)], [.inl y, .inr (some 39)], μ, 0, 0) := mm_W_eq rf_hk_mono _
set_option maxRecDepth 8000 in
theorem r_told_84 (ret : Option mV → rf_M → Prop) (μ : rf_M) (x0 : Int32) (ls : List (Option mV)) : W_told ret (84, ls, [.inl x0, .inr (some 39)], μ, 0, 0) = (∃ Q0 : Int32 → rf_M → Prop, P_layPieces [.inr (some 39), .inl x0] μ 0 0 (mI Q0) ∧ ∀ r s', Q0 r s' → W_told ret (87, ls, [.inl r], s', 0, 0)) := mm_W_eq rf_hk_mono _
set_option maxRecDepth 8000 in
theorem r_told_87 (ret : Option mV → rf_M → Prop) (μ : rf_M) (x0 : Int32) (ls : List (Option mV)) : W_told ret (87, ls, [.inl x0], μ, 0, 0) = W_told ret (88, ls, [], μ, 0, 0) := mm_W_eq rf_hk_mono _
set_option maxRecDepth 8000 in
theorem r_told_88 (ret : Option mV → rf_M → Prop) (μ : rf_M) (l1 l2 l3 : Option mV) : W_told ret (88, [some (.inr (some 39)), l1, l2, l3], [], μ, 0, 0) = W_told ret (89, [some (.inr (some 39)), l1, l2, l3], [.inr (some 39)], μ, 0, 0) := mm_W_eq rf_hk_mono _
set_option maxRecDepth 8000 in
theorem r_told_89 (ret : Option mV → rf_M → Prop) (μ : rf_M) (ls : List (Option mV)) : W_told ret (89, ls, [.inr (some 39)], μ, 0, 0) = W_told ret (92, ls, [.inl (μ.1 24)], μ, 0, 0) := mm_W_eq rf_hk_mono _
set_option maxRecDepth 8000 in
theorem r_told_92 (ret : Option mV → rf_M → Prop) (μ : rf_M) (x0 : Int32) (ls : List (Option mV)) : W_told ret (92, ls, [.inl x0], μ, 0, 0) = ret (some (.inl x0)) μ := mm_W_eq rf_hk_mono _
set_option maxRecDepth 8000 in
theorem r_told_93 (ret : Option mV → rf_M → Prop) (μ : rf_M) (l1 l2 l3 : Option mV) : W_told ret (93, [some (.inr (some 39)), l1, l2, l3], [], μ, 0, 0) = W_told ret (94, [some (.inr (some 39)), l1, l2, l3], [.inr (some 39)], μ, 0, 0) := mm_W_eq rf_hk_mono _
set_option maxRecDepth 8000 in
theorem r_told_94 (ret : Option mV → rf_M → Prop) (μ : rf_M) (ls : List (Option mV)) : W_told ret (94, ls, [.inr (some 39)], μ, 0, 0) = (∃ Q0 : rf_M → Prop, P_clearMarks [.inr (some 39)] μ 0 0 (mN Q0) ∧ ∀ s', Q0 s' → W_told ret (97, ls, [], s', 0, 0)) := mm_W_eq rf_hk_mono _
set_option maxRecDepth 8000 in
theorem r_told_97 (ret : Option mV → rf_M → Prop) (μ : rf_M) (l1 l2 l3 : Option mV) : W_told ret (97, [some (.inr (some 39)), l1, l2, l3], [], μ, 0, 0) = W_told ret (98, [some (.inr (some 39)), l1, l2, l3], [.inr (some 39)], μ, 0, 0) := mm_W_eq rf_hk_mono _
set_option maxRecDepth 8000 in
theorem r_told_98 (ret : Option mV → rf_M → Prop) (μ : rf_M) (y : Int32) (l0 l1 l2 : Option mV) : W_told ret (98, [l0, l1, l2, some (.inl y)], [.inr (some 39)], μ, 0, 0) = W_told ret (99, [l0, l1, l2, some (.inl y)], [.inl y, .inr (some 39)], μ, 0, 0) := mm_W_eq rf_hk_mono _
set_option maxRecDepth 8000 in
theorem r_told_99 (ret : Option mV → rf_M → Prop) (μ : rf_M) (x0 : Int32) (ls : List (Option mV)) : W_told ret (99, ls, [.inl x0, .inr (some 39)], μ, 0, 0) = (∃ Q0 : Int32 → rf_M → Prop, P_mark [.inr (some 39), .inl x0] μ 0 0 (mI Q0) ∧ ∀ r s', Q0 r s' → W_told ret (102, ls, [.inl r], s', 0, 0)) := mm_W_eq rf_hk_mono _
set_option maxRecDepth 8000 in
theorem r_told_102 (ret : Option mV → rf_M → Prop) (μ : rf_M) (x0 : Int32) (ls : List (Option mV)) : W_told ret (102, ls, [.inl x0], μ, 0, 0) = ret (some (.inl x0)) μ := mm_W_eq rf_hk_mono _
set_option maxRecDepth 8000 in
theorem r_told_103 (ret : Option mV → rf_M → Prop) (μ : rf_M) (l1 l2 l3 : Option mV) : W_told ret (103, [some (.inr (some 39)), l1, l2, l3], [], μ, 0, 0) = W_told ret (104, [some (.inr (some 39)), l1, l2, l3], [.inr (some 39)], μ, 0, 0) := mm_W_eq rf_hk_mono _
set_option maxRecDepth 8000 in
theorem r_told_104 (ret : Option mV → rf_M → Prop) (μ : rf_M) (ls : List (Option mV)) : W_told ret (104, ls, [.inr (some 39)], μ, 0, 0) = (∃ Q0 : rf_M → Prop, P_clearMarks [.inr (some 39)] μ 0 0 (mN Q0) ∧ ∀ s', Q0 s' → W_told ret (107, ls, [], s', 0, 0)) := mm_W_eq rf_hk_mono _
set_option maxRecDepth 8000 in
theorem r_told_107 (ret : Option mV → rf_M → Prop) (μ : rf_M) (l1 l2 l3 : Option mV) : W_told ret (107, [some (.inr (some 39)), l1, l2, l3], [], μ, 0, 0) = W_told ret (108, [some (.inr (some 39)), l1, l2, l3], [.inr (some 39)], μ, 0, 0) := mm_W_eq rf_hk_mono _
set_option maxRecDepth 8000 in
theorem r_told_108 (ret : Option mV → rf_M → Prop) (μ : rf_M) (y : Int32) (l0 l1 l2 : Option mV) : W_told ret (108, [l0, l1, l2, some (.inl y)], [.inr (some 39)], μ, 0, 0) = W_told ret (109, [l0, l1, l2, some (.inl y)], [.inl y, .inr (some 39)], μ, 0, 0) := mm_W_eq rf_hk_mono _
set_option maxRecDepth 8000 in
theorem r_told_109 (ret : Option mV → rf_M → Prop) (μ : rf_M) (x0 : Int32) (ls : List (Option mV)) : W_told ret (109, ls, [.inl x0, .inr (some 39)], μ, 0, 0) = (∃ Q0 : Int32 → rf_M → Prop, P_mark [.inr (some 39), .inl x0] μ 0 0 (mI Q0) ∧ ∀ r s', Q0 r s' → W_told ret (112, ls, [.inl r], s', 0, 0)) := mm_W_eq rf_hk_mono _
set_option maxRecDepth 8000 in
theorem r_told_112 (ret : Option mV → rf_M → Prop) (μ : rf_M) (x0 : Int32) (ls : List (Option mV)) : W_told ret (112, ls, [.inl x0], μ, 0, 0) = W_told ret (113, ls, [], μ, 0, 0) := mm_W_eq rf_hk_mono _
set_option maxRecDepth 8000 in
theorem r_told_113 (ret : Option mV → rf_M → Prop) (μ : rf_M) (l1 l2 l3 : Option mV) : W_told ret (113, [some (.inr (some 39)), l1, l2, l3], [], μ, 0, 0) = W_told ret (114, [some (.inr (some 39)), l1, l2, l3], [.inr (some 39)], μ, 0, 0) := mm_W_eq rf_hk_mono _
set_option maxRecDepth 8000 in
theorem r_told_114 (ret : Option mV → rf_M → Prop) (μ : rf_M) (ls : List (Option mV)) : W_told ret (114, ls, [.inr (some 39)], μ, 0, 0) = (∃ Q0 : Int32 → rf_M → Prop, P_roomOfMarked [.inr (some 39)] μ 0 0 (mI Q0) ∧ ∀ r s', Q0 r s' → W_told ret (117, ls, [.inl r], s', 0, 0)) := mm_W_eq rf_hk_mono _
set_option maxRecDepth 8000 in
theorem r_told_117 (ret : Option mV → rf_M → Prop) (μ : rf_M) (x0 : Int32) (ls : List (Option mV)) : W_told ret (117, ls, [.inl x0], μ, 0, 0) = ret (some (.inl x0)) μ := mm_W_eq rf_hk_mono _
set_option maxRecDepth 8000 in
theorem r_told_118 (ret : Option mV → rf_M → Prop) (μ : rf_M) (l1 l2 l3 : Option mV) : W_told ret (118, [some (.inr (some 39)), l1, l2, l3], [], μ, 0, 0) = W_told ret (119, [some (.inr (some 39)), l1, l2, l3], [.inr (some 39)], μ, 0, 0) := mm_W_eq rf_hk_mono _
set_option maxRecDepth 8000 in
theorem r_told_119 (ret : Option mV → rf_M → Prop) (μ : rf_M) (y : Int32) (l0 l2 l3 : Option mV) : W_told ret (119, [l0, some (.inl y), l2, l3], [.inr (some 39)], μ, 0, 0) = W_told ret (120, [l0, some (.inl y), l2, l3], [.inl y, .inr (some 39)], μ, 0, 0) := mm_W_eq rf_hk_mono _
set_option maxRecDepth 8000 in
theorem r_told_120 (ret : Option mV → rf_M → Prop) (μ : rf_M) (x0 : Int32) (ls : List (Option mV)) : W_told ret (120, ls, [.inl x0, .inr (some 39)], μ, 0, 0) = (∃ Q0 : Int32 → rf_M → Prop, P_isWide [.inr (some 39), .inl x0] μ 0 0 (mI Q0) ∧ ∀ r s', Q0 r s' → W_told ret (123, ls, [.inl r], s', 0, 0)) := mm_W_eq rf_hk_mono _
set_option maxRecDepth 8000 in
theorem r_told_123 (ret : Option mV → rf_M → Prop) (μ : rf_M) (x0 : Int32) (ls : List (Option mV)) : W_told ret (123, ls, [.inl x0], μ, 0, 0) = ((x0 = 0 → W_told ret (130, ls, [], μ, 0, 0)) ∧ (¬ x0 = 0 → W_told ret (126, ls, [], μ, 0, 0))) := mm_W_eq rf_hk_mono _
set_option maxRecDepth 8000 in
theorem r_told_126 (ret : Option mV → rf_M → Prop) (μ : rf_M) (ls : List (Option mV)) : W_told ret (126, ls, [], μ, 0, 0) = W_told ret (127, ls, [.inl (nI 1)], μ, 0, 0) := mm_W_eq rf_hk_mono _
set_option maxRecDepth 8000 in
theorem r_told_127 (ret : Option mV → rf_M → Prop) (μ : rf_M) (x0 : Int32) (ls : List (Option mV)) : W_told ret (127, ls, [.inl x0], μ, 0, 0) = W_told ret (131, ls, [.inl x0], μ, 0, 0) := mm_W_eq rf_hk_mono _
set_option maxRecDepth 8000 in
theorem r_told_130 (ret : Option mV → rf_M → Prop) (μ : rf_M) (ls : List (Option mV)) : W_told ret (130, ls, [], μ, 0, 0) = W_told ret (131, ls, [.inl (nI 0)], μ, 0, 0) := mm_W_eq rf_hk_mono _
set_option maxRecDepth 8000 in
theorem r_told_131 (ret : Option mV → rf_M → Prop) (μ : rf_M) (x0 : Int32) (ls : List (Option mV)) : W_told ret (131, ls, [.inl x0], μ, 0, 0) = ret (some (.inl x0)) μ := mm_W_eq rf_hk_mono _
set_option maxRecDepth 8000 in
theorem r_told_132 (ret : Option mV → rf_M → Prop) (μ : rf_M) (ls : List (Option mV)) : W_told ret (132, ls, [], μ, 0, 0) = W_told ret (134, ls, [.inl (Int32.ofInt (-2))], μ, 0, 0) := mm_W_eq rf_hk_mono _
set_option maxRecDepth 8000 in
theorem r_told_134 (ret : Option mV → rf_M → Prop) (μ : rf_M) (x0 : Int32) (ls : List (Option mV)) : W_told ret (134, ls, [.inl x0], μ, 0, 0) = ret (some (.inl x0)) μ := mm_W_eq rf_hk_mono _
theorem e_told (a0 a1 : Int32) (μ : rf_M) (ret : Option mV → rf_M → Prop) (h : W_told ret (0, [some (.inr (some 39)), some (.inl a0), some (.inl a1), none], [], μ, 0, 0)) : P_told [.inr (some 39), .inl a0, .inl a1] μ 0 0 ret := ⟨rfl, Nat.le_of_ble_eq_true rfl, h⟩
theorem so_told (l : Launch) (D : va_G) (cs sa ad : Nat → Nat) (A : Nat → Prop) : mm_So l (rf_W D cs ad A) (kk D cs sa A) ad A yX7_told cX7_told 4 (some .int) 3 P_told := rf_So (rf_sound (by decide) (by decide +kernel) rfl (fun p e mc ms s0 m args below meth c F hK hA => List.forall_mem_cons.mpr ⟨mm_CSS F hK (kk_KW D cs sa A) hA (so_isSlot l D cs sa ad A) (by decide) (by decide) wd_740 wd_741 wd_56 wd_742 ⟨by decide, by decide, rfl⟩, List.forall_mem_cons.mpr ⟨mm_CSV F hK (kk_KW D cs sa A) hA (so_layPieces l D cs sa ad A) (by decide) (by decide) wd_776 wd_778 wd_30 wd_56 wd_779 ⟨rfl, by decide, by decide, rfl⟩ (rf_recv hK), List.forall_mem_cons.mpr ⟨mm_CSV F hK (kk_KW D cs sa A) hA (so_clearMarks l D cs sa ad A) (by decide) (by decide) wd_748 wd_750 wd_25 wd_56 wd_751 ⟨rfl, by decide, by decide, rfl⟩ (rf_recv hK), List.forall_mem_cons.mpr ⟨mm_CSV F hK (kk_KW D cs sa A) hA (so_mark l D cs sa ad A) (by decide) (by decide) wd_752 wd_754 wd_26 wd_56 wd_755 ⟨rfl, by decide, by decide, rfl⟩ (rf_recv hK), List.forall_mem_cons.mpr ⟨mm_CSV F hK (kk_KW D cs sa A) hA (so_roomOfMarked l D cs sa ad A) (by decide) (by decide) wd_832 wd_834 wd_39 wd_56 wd_835 ⟨rfl, by decide, by decide, rfl⟩ (rf_recv hK), List.forall_mem_cons.mpr ⟨mm_CSV F hK (kk_KW D cs sa A) hA (so_isWide l D cs sa ad A) (by decide) (by decide) wd_840 wd_842 wd_41 wd_56 wd_843 ⟨rfl, by decide, by decide, rfl⟩ (rf_recv hK), fun _ h => absurd h List.not_mem_nil⟩⟩⟩⟩⟩⟩))
/-! areSame -/
def cd_areSame : mC := [(0, .aload_n 0, 1), (1, .iload_n 1, 1), (2, .iload_n 2, 1), (3, .invokevirtual 206, 3), (6, .aload_n 0, 1), (7, .getfield 200, 3), (10, .aload_n 0, 1), (11, .getfield 203, 3), (14, .if_icmp .ne 18, 3), (17, .aload_n 0, 1), (18, .invokevirtual 210, 3), (21, .aload_n 0, 1), (22, .getfield 200, 3), (25, .if_icmp .ne 7, 3), (28, .iconst 1, 1), (29, .goto 4, 3), (32, .iconst 0, 1), (33, .ireturn, 1)]
def sp_areSame : mQ rf_M := [((0, 206), 3, 0, P_layBoth), ((0, 210), 1, 1, P_alikeSigns)]
def W_areSame (ret : Option mV → rf_M → Prop) : mX rf_M → Prop := mm_W 2 cd_areSame rf_hk sp_areSame ret
def P_areSame : mP rf_M := rf_P (mm_Pm 2 cd_areSame rf_hk sp_areSame 3)
theorem r_areSame_0 (ret : Option mV → rf_M → Prop) (μ : rf_M) (l1 l2 : Option mV) : W_areSame ret (0, [some (.inr (some 39)), l1, l2], [], μ, 0, 0) = W_areSame ret (1, [some (.inr (some 39)), l1, l2], [.inr (some 39)], μ, 0, 0) := mm_W_eq rf_hk_mono _
theorem r_areSame_1 (ret : Option mV → rf_M → Prop) (μ : rf_M) (y : Int32) (l0 l2 : Option mV) : W_areSame ret (1, [l0, some (.inl y), l2], [.inr (some 39)], μ, 0, 0) = W_areSame ret (2, [l0, some (.inl y), l2], [.inl y, .inr (some 39)], μ, 0, 0) := mm_W_eq rf_hk_mono _
theorem r_areSame_2 (ret : Option mV → rf_M → Prop) (μ : rf_M) (x0 y : Int32) (l0 l1 : Option mV) : W_areSame ret (2, [l0, l1, some (.inl y)], [.inl x0, .inr (some 39)], μ, 0, 0) = W_areSame ret (3, [l0, l1, some (.inl y)], [.inl y, .inl x0, .inr (some 39)], μ, 0, 0) := mm_W_eq rf_hk_mono _
theorem r_areSame_3 (ret : Option mV → rf_M → Prop) (μ : rf_M) (x0 x1 : Int32) (ls : List (Option mV)) : W_areSame ret (3, ls, [.inl x0, .inl x1, .inr (some 39)], μ, 0, 0) = (∃ Q0 : rf_M → Prop, P_layBoth [.inr (some 39), .inl x1, .inl x0] μ 0 0 (mN Q0) ∧ ∀ s', Q0 s' → W_areSame ret (6, ls, [], s', 0, 0)) := mm_W_eq rf_hk_mono _
theorem r_areSame_6 (ret : Option mV → rf_M → Prop) (μ : rf_M) (l1 l2 : Option mV) : W_areSame ret (6, [some (.inr (some 39)), l1, l2], [], μ, 0, 0) = W_areSame ret (7, [some (.inr (some 39)), l1, l2], [.inr (some 39)], μ, 0, 0) := mm_W_eq rf_hk_mono _
theorem r_areSame_7 (ret : Option mV → rf_M → Prop) (μ : rf_M) (ls : List (Option mV)) : W_areSame ret (7, ls, [.inr (some 39)], μ, 0, 0) = W_areSame ret (10, ls, [.inl (μ.1 37)], μ, 0, 0) := mm_W_eq rf_hk_mono _
theorem r_areSame_10 (ret : Option mV → rf_M → Prop) (μ : rf_M) (x0 : Int32) (l1 l2 : Option mV) : W_areSame ret (10, [some (.inr (some 39)), l1, l2], [.inl x0], μ, 0, 0) = W_areSame ret (11, [some (.inr (some 39)), l1, l2], [.inr (some 39), .inl x0], μ, 0, 0) := mm_W_eq rf_hk_mono _
theorem r_areSame_11 (ret : Option mV → rf_M → Prop) (μ : rf_M) (x1 : Int32) (ls : List (Option mV)) : W_areSame ret (11, ls, [.inr (some 39), .inl x1], μ, 0, 0) = W_areSame ret (14, ls, [.inl (μ.1 38), .inl x1], μ, 0, 0) := mm_W_eq rf_hk_mono _
theorem r_areSame_14 (ret : Option mV → rf_M → Prop) (μ : rf_M) (x0 x1 : Int32) (ls : List (Option mV)) : W_areSame ret (14, ls, [.inl x0, .inl x1], μ, 0, 0) = ((¬ x1 = x0 → W_areSame ret (32, ls, [], μ, 0, 0)) ∧ (¬ (¬ x1 = x0) → W_areSame ret (17, ls, [], μ, 0, 0))) := mm_W_eq rf_hk_mono _
theorem r_areSame_17 (ret : Option mV → rf_M → Prop) (μ : rf_M) (l1 l2 : Option mV) : W_areSame ret (17, [some (.inr (some 39)), l1, l2], [], μ, 0, 0) = W_areSame ret (18, [some (.inr (some 39)), l1, l2], [.inr (some 39)], μ, 0, 0) := mm_W_eq rf_hk_mono _
theorem r_areSame_18 (ret : Option mV → rf_M → Prop) (μ : rf_M) (ls : List (Option mV)) : W_areSame ret (18, ls, [.inr (some 39)], μ, 0, 0) = (∃ Q0 : Int32 → rf_M → Prop, P_alikeSigns [.inr (some 39)] μ 0 0 (mI Q0) ∧ ∀ r s', Q0 r s' → W_areSame ret (21, ls, [.inl r], s', 0, 0)) := mm_W_eq rf_hk_mono _
theorem r_areSame_21 (ret : Option mV → rf_M → Prop) (μ : rf_M) (x0 : Int32) (l1 l2 : Option mV) : W_areSame ret (21, [some (.inr (some 39)), l1, l2], [.inl x0], μ, 0, 0) = W_areSame ret (22, [some (.inr (some 39)), l1, l2], [.inr (some 39), .inl x0], μ, 0, 0) := mm_W_eq rf_hk_mono _
theorem r_areSame_22 (ret : Option mV → rf_M → Prop) (μ : rf_M) (x1 : Int32) (ls : List (Option mV)) : W_areSame ret (22, ls, [.inr (some 39), .inl x1], μ, 0, 0) = W_areSame ret (25, ls, [.inl (μ.1 37), .inl x1], μ, 0, 0) := mm_W_eq rf_hk_mono _
theorem r_areSame_25 (ret : Option mV → rf_M → Prop) (μ : rf_M) (x0 x1 : Int32) (ls : List (Option mV)) : W_areSame ret (25, ls, [.inl x0, .inl x1], μ, 0, 0) = ((¬ x1 = x0 → W_areSame ret (32, ls, [], μ, 0, 0)) ∧ (¬ (¬ x1 = x0) → W_areSame ret (28, ls, [], μ, 0, 0))) := mm_W_eq rf_hk_mono _
theorem r_areSame_28 (ret : Option mV → rf_M → Prop) (μ : rf_M) (ls : List (Option mV)) : W_areSame ret (28, ls, [], μ, 0, 0) = W_areSame ret (29, ls, [.inl (nI 1)], μ, 0, 0) := mm_W_eq rf_hk_mono _
set_option maxRecDepth 8000 in
theorem r_areSame_29 (ret : Option mV → rf_M → Prop) (μ : rf_M) (x0 : Int32) (ls : List (Option mV)) : W_areSame ret (29, ls, [.inl x0], μ, 0, 0) = W_areSame ret (33, ls, [.inl x0], μ, 0, 0) := mm_W_eq rf_hk_mono _
theorem r_areSame_32 (ret : Option mV → rf_M → Prop) (μ : rf_M) (ls : List (Option mV)) : W_areSame ret (32, ls, [], μ, 0, 0) = W_areSame ret (33, ls, [.inl (nI 0)], μ, 0, 0) := mm_W_eq rf_hk_mono _
theorem r_areSame_33 (ret : Option mV → rf_M → Prop) (μ : rf_M) (x0 : Int32) (ls : List (Option mV)) : W_areSame ret (33, ls, [.inl x0], μ, 0, 0) = ((x0 = 0 ∨ x0 = 1) ∧ ret (some (.inl x0)) μ) := mm_W_eq rf_hk_mono _
theorem e_areSame (a0 a1 : Int32) (μ : rf_M) (ret : Option mV → rf_M → Prop) (h : W_areSame ret (0, [some (.inr (some 39)), some (.inl a0), some (.inl a1)], [], μ, 0, 0)) : P_areSame [.inr (some 39), .inl a0, .inl a1] μ 0 0 ret := ⟨rfl, Nat.le_of_ble_eq_true rfl, h⟩
theorem so_areSame (l : Launch) (D : va_G) (cs sa ad : Nat → Nat) (A : Nat → Prop) : mm_So l (rf_W D cs ad A) (kk D cs sa A) ad A yX7_areSame cX7_areSame 3 (some .boolean) 3 P_areSame := rf_So (rf_sound (by decide) (by decide +kernel) rfl (fun p e mc ms s0 m args below meth c F hK hA => List.forall_mem_cons.mpr ⟨mm_CSV F hK (kk_KW D cs sa A) hA (so_layBoth l D cs sa ad A) (by decide) (by decide) wd_856 wd_858 wd_43 wd_56 wd_859 ⟨rfl, by decide, by decide, rfl⟩ (rf_recv hK), List.forall_mem_cons.mpr ⟨mm_CSV F hK (kk_KW D cs sa A) hA (so_alikeSigns l D cs sa ad A) (by decide) (by decide) wd_860 wd_862 wd_44 wd_56 wd_863 ⟨rfl, by decide, by decide, rfl⟩ (rf_recv hK), fun _ h => absurd h List.not_mem_nil⟩⟩))
/-! cutOut -/
def cd_cutOut : mC := [(0, .iconst 0, 1), (1, .istore 4, 2), (3, .aload_n 0, 1), (4, .iconst 0, 1), (5, .putfield 161, 3), (8, .aload_n 0, 1), (9, .iload_n 1, 1), (10, .iload_n 2, 1), (11, .iload_n 3, 1), (12, .invokevirtual 168, 3), (15, .aload_n 0, 1), (16, .getfield 161, 3), (19, .ifCond .le 98, 3), (22, .aload_n 0, 1), (23, .dup, 1), (24, .getfield 161, 3), (27, .iconst 1, 1), (28, .isub, 1), (29, .putfield 161, 3), (32, .aload_n 0, 1), (33, .getfield 94, 3), (36, .aload_n 0, 1), (37, .getfield 161, 3), (40, .iaload, 1), (41, .ifCond .ge 38, 3), (44, .iinc 4 (-1), 3), (47, .aload_n 0, 1), (48, .getfield 97, 3), (51, .iload 4, 2), (53, .iconst 1, 1), (54, .isub, 1), (55, .aload_n 0, 1), (56, .aload_n 0, 1), (57, .getfield 97, 3), (60, .iload 4, 2), (62, .iconst 1, 1), (63, .isub, 1), (64, .iaload, 1), (65, .aload_n 0, 1), (66, .getfield 97, 3), (69, .iload 4, 2), (71, .iaload, 1), (72, .invokevirtual 172, 3), (75, .iastore, 1), (76, .goto (-61), 3), (79, .aload_n 0, 1), (80, .aload_n 0, 1), (81, .getfield 88, 3), (84, .aload_n 0, 1), (85, .getfield 161, 3), (88, .iaload, 1), (89, .aload_n 0, 1), (90, .getfield 91, 3), (93, .aload_n 0, 1), (94, .getfield 161, 3), (97, .iaload, 1), (98, .aload_n 0, 1), (99, .getfield 94, 3), (102, .aload_n 0, 1), (103, .getfield 161, 3), (106, .iaload, 1), (107, .iload 4, 2), (109, .invokevirtual 175, 3), (112, .istore 4, 2), (114, .goto (-99), 3), (117, .aload_n 0, 1), (118, .getfield 97, 3), (121, .iconst 0, 1), (122, .iaload, 1), (123, .ireturn, 1)]
def sp_cutOut : mQ rf_M := [((0, 168), 4, 0, P_toCut), ((0, 172), 3, 1, P_joined), ((0, 175), 5, 1, P_cutOne)]
def W_cutOut (ret : Option mV → rf_M → Prop) : mX rf_M → Prop := mm_W 1 cd_cutOut rf_hk sp_cutOut ret
def P_cutOut : mP rf_M := rf_P (mm_Pm 1 cd_cutOut rf_hk sp_cutOut 5)
theorem r_cutOut_0 (ret : Option mV → rf_M → Prop) (μ : rf_M) (ls : List (Option mV)) : W_cutOut ret (0, ls, [], μ, 0, 0) = W_cutOut ret (1, ls, [.inl (nI 0)], μ, 0, 0) := mm_W_eq rf_hk_mono _
theorem r_cutOut_1 (ret : Option mV → rf_M → Prop) (μ : rf_M) (x0 : Int32) (l0 l1 l2 l3 l4 : Option mV) : W_cutOut ret (1, [l0, l1, l2, l3, l4], [.inl x0], μ, 0, 0) = W_cutOut ret (3, [l0, l1, l2, l3, some (.inl x0)], [], μ, 0, 0) := mm_W_eq rf_hk_mono _
theorem r_cutOut_3 (ret : Option mV → rf_M → Prop) (μ : rf_M) (l1 l2 l3 l4 : Option mV) : W_cutOut ret (3, [some (.inr (some 39)), l1, l2, l3, l4], [], μ, 0, 0) = W_cutOut ret (4, [some (.inr (some 39)), l1, l2, l3, l4], [.inr (some 39)], μ, 0, 0) := mm_W_eq rf_hk_mono _
theorem r_cutOut_4 (ret : Option mV → rf_M → Prop) (μ : rf_M) (ls : List (Option mV)) : W_cutOut ret (4, ls, [.inr (some 39)], μ, 0, 0) = W_cutOut ret (5, ls, [.inl (nI 0), .inr (some 39)], μ, 0, 0) := mm_W_eq rf_hk_mono _
theorem r_cutOut_5 (ret : Option mV → rf_M → Prop) (μ : rf_M) (x0 : Int32) (ls : List (Option mV)) : W_cutOut ret (5, ls, [.inl x0, .inr (some 39)], μ, 0, 0) = W_cutOut ret (8, ls, [], (upd μ.1 35 x0, μ.2), 0, 0) := mm_W_eq rf_hk_mono _
theorem r_cutOut_8 (ret : Option mV → rf_M → Prop) (μ : rf_M) (l1 l2 l3 l4 : Option mV) : W_cutOut ret (8, [some (.inr (some 39)), l1, l2, l3, l4], [], μ, 0, 0) = W_cutOut ret (9, [some (.inr (some 39)), l1, l2, l3, l4], [.inr (some 39)], μ, 0, 0) := mm_W_eq rf_hk_mono _
theorem r_cutOut_9 (ret : Option mV → rf_M → Prop) (μ : rf_M) (y : Int32) (l0 l2 l3 l4 : Option mV) : W_cutOut ret (9, [l0, some (.inl y), l2, l3, l4], [.inr (some 39)], μ, 0, 0) = W_cutOut ret (10, [l0, some (.inl y), l2, l3, l4], [.inl y, .inr (some 39)], μ, 0, 0) := mm_W_eq rf_hk_mono _
theorem r_cutOut_10 (ret : Option mV → rf_M → Prop) (μ : rf_M) (x0 y : Int32) (l0 l1 l3 l4 : Option mV) : W_cutOut ret (10, [l0, l1, some (.inl y), l3, l4], [.inl x0, .inr (some 39)], μ, 0, 0) = W_cutOut ret (11, [l0, l1, some (.inl y), l3, l4], [.inl y, .inl x0, .inr (some 39)], μ, 0, 0) := mm_W_eq rf_hk_mono _
theorem r_cutOut_11 (ret : Option mV → rf_M → Prop) (μ : rf_M) (x0 x1 y : Int32) (l0 l1 l2 l4 : Option mV) : W_cutOut ret (11, [l0, l1, l2, some (.inl y), l4], [.inl x0, .inl x1, .inr (some 39)], μ, 0, 0) = W_cutOut ret (12, [l0, l1, l2, some (.inl y), l4], [.inl y, .inl x0, .inl x1, .inr (some 39)], μ, 0, 0) := mm_W_eq rf_hk_mono _
theorem r_cutOut_12 (ret : Option mV → rf_M → Prop) (μ : rf_M) (x0 x1 x2 : Int32) (ls : List (Option mV)) : W_cutOut ret (12, ls, [.inl x0, .inl x1, .inl x2, .inr (some 39)], μ, 0, 0) = (∃ Q0 : rf_M → Prop, P_toCut [.inr (some 39), .inl x2, .inl x1, .inl x0] μ 0 0 (mN Q0) ∧ ∀ s', Q0 s' → W_cutOut ret (15, ls, [], s', 0, 0)) := mm_W_eq rf_hk_mono _
theorem r_cutOut_15 (ret : Option mV → rf_M → Prop) (μ : rf_M) (l1 l2 l3 l4 : Option mV) : W_cutOut ret (15, [some (.inr (some 39)), l1, l2, l3, l4], [], μ, 0, 0) = W_cutOut ret (16, [some (.inr (some 39)), l1, l2, l3, l4], [.inr (some 39)], μ, 0, 0) := mm_W_eq rf_hk_mono _
theorem r_cutOut_16 (ret : Option mV → rf_M → Prop) (μ : rf_M) (ls : List (Option mV)) : W_cutOut ret (16, ls, [.inr (some 39)], μ, 0, 0) = W_cutOut ret (19, ls, [.inl (μ.1 35)], μ, 0, 0) := mm_W_eq rf_hk_mono _
theorem r_cutOut_19 (ret : Option mV → rf_M → Prop) (μ : rf_M) (x0 : Int32) (ls : List (Option mV)) : W_cutOut ret (19, ls, [.inl x0], μ, 0, 0) = ((x0 ≤ 0 → W_cutOut ret (117, ls, [], μ, 0, 0)) ∧ (¬ x0 ≤ 0 → W_cutOut ret (22, ls, [], μ, 0, 0))) := mm_W_eq rf_hk_mono _
theorem r_cutOut_22 (ret : Option mV → rf_M → Prop) (μ : rf_M) (l1 l2 l3 l4 : Option mV) : W_cutOut ret (22, [some (.inr (some 39)), l1, l2, l3, l4], [], μ, 0, 0) = W_cutOut ret (23, [some (.inr (some 39)), l1, l2, l3, l4], [.inr (some 39)], μ, 0, 0) := mm_W_eq rf_hk_mono _
theorem r_cutOut_23 (ret : Option mV → rf_M → Prop) (μ : rf_M) (ls : List (Option mV)) : W_cutOut ret (23, ls, [.inr (some 39)], μ, 0, 0) = W_cutOut ret (24, ls, [.inr (some 39), .inr (some 39)], μ, 0, 0) := mm_W_eq rf_hk_mono _
theorem r_cutOut_24 (ret : Option mV → rf_M → Prop) (μ : rf_M) (ls : List (Option mV)) : W_cutOut ret (24, ls, [.inr (some 39), .inr (some 39)], μ, 0, 0) = W_cutOut ret (27, ls, [.inl (μ.1 35), .inr (some 39)], μ, 0, 0) := mm_W_eq rf_hk_mono _
theorem r_cutOut_27 (ret : Option mV → rf_M → Prop) (μ : rf_M) (x0 : Int32) (ls : List (Option mV)) : W_cutOut ret (27, ls, [.inl x0, .inr (some 39)], μ, 0, 0) = W_cutOut ret (28, ls, [.inl (nI 1), .inl x0, .inr (some 39)], μ, 0, 0) := mm_W_eq rf_hk_mono _
theorem r_cutOut_28 (ret : Option mV → rf_M → Prop) (μ : rf_M) (x0 x1 : Int32) (ls : List (Option mV)) : W_cutOut ret (28, ls, [.inl x0, .inl x1, .inr (some 39)], μ, 0, 0) = W_cutOut ret (29, ls, [.inl (x1 - x0), .inr (some 39)], μ, 0, 0) := mm_W_eq rf_hk_mono _
theorem r_cutOut_29 (ret : Option mV → rf_M → Prop) (μ : rf_M) (x0 : Int32) (ls : List (Option mV)) : W_cutOut ret (29, ls, [.inl x0, .inr (some 39)], μ, 0, 0) = W_cutOut ret (32, ls, [], (upd μ.1 35 x0, μ.2), 0, 0) := mm_W_eq rf_hk_mono _
theorem r_cutOut_32 (ret : Option mV → rf_M → Prop) (μ : rf_M) (l1 l2 l3 l4 : Option mV) : W_cutOut ret (32, [some (.inr (some 39)), l1, l2, l3, l4], [], μ, 0, 0) = W_cutOut ret (33, [some (.inr (some 39)), l1, l2, l3, l4], [.inr (some 39)], μ, 0, 0) := mm_W_eq rf_hk_mono _
theorem r_cutOut_33 (ret : Option mV → rf_M → Prop) (μ : rf_M) (ls : List (Option mV)) : W_cutOut ret (33, ls, [.inr (some 39)], μ, 0, 0) = W_cutOut ret (36, ls, [.inr (some 34)], μ, 0, 0) := mm_W_eq rf_hk_mono _
theorem r_cutOut_36 (ret : Option mV → rf_M → Prop) (μ : rf_M) (l1 l2 l3 l4 : Option mV) : W_cutOut ret (36, [some (.inr (some 39)), l1, l2, l3, l4], [.inr (some 34)], μ, 0, 0) = W_cutOut ret (37, [some (.inr (some 39)), l1, l2, l3, l4], [.inr (some 39), .inr (some 34)], μ, 0, 0) := mm_W_eq rf_hk_mono _
theorem r_cutOut_37 (ret : Option mV → rf_M → Prop) (μ : rf_M) (ls : List (Option mV)) : W_cutOut ret (37, ls, [.inr (some 39), .inr (some 34)], μ, 0, 0) = W_cutOut ret (40, ls, [.inl (μ.1 35), .inr (some 34)], μ, 0, 0) := mm_W_eq rf_hk_mono _
theorem r_cutOut_40 (ret : Option mV → rf_M → Prop) (μ : rf_M) (x0 : Int32) (ls : List (Option mV)) : W_cutOut ret (40, ls, [.inl x0, .inr (some 34)], μ, 0, 0) = (vp_in x0 512 ∧ W_cutOut ret (41, ls, [.inl (μ.2 34 x0.toNatClampNeg)], μ, 0, 0)) := mm_W_eq rf_hk_mono _
theorem r_cutOut_41 (ret : Option mV → rf_M → Prop) (μ : rf_M) (x0 : Int32) (ls : List (Option mV)) : W_cutOut ret (41, ls, [.inl x0], μ, 0, 0) = ((0 ≤ x0 → W_cutOut ret (79, ls, [], μ, 0, 0)) ∧ (¬ 0 ≤ x0 → W_cutOut ret (44, ls, [], μ, 0, 0))) := mm_W_eq rf_hk_mono _
theorem r_cutOut_44 (ret : Option mV → rf_M → Prop) (μ : rf_M) (y : Int32) (l0 l1 l2 l3 : Option mV) : W_cutOut ret (44, [l0, l1, l2, l3, some (.inl y)], [], μ, 0, 0) = W_cutOut ret (47, [l0, l1, l2, l3, some (.inl (y + Int32.ofInt (-1)))], [], μ, 0, 0) := mm_W_eq rf_hk_mono _
theorem r_cutOut_47 (ret : Option mV → rf_M → Prop) (μ : rf_M) (l1 l2 l3 l4 : Option mV) : W_cutOut ret (47, [some (.inr (some 39)), l1, l2, l3, l4], [], μ, 0, 0) = W_cutOut ret (48, [some (.inr (some 39)), l1, l2, l3, l4], [.inr (some 39)], μ, 0, 0) := mm_W_eq rf_hk_mono _
theorem r_cutOut_48 (ret : Option mV → rf_M → Prop) (μ : rf_M) (ls : List (Option mV)) : W_cutOut ret (48, ls, [.inr (some 39)], μ, 0, 0) = W_cutOut ret (51, ls, [.inr (some 36)], μ, 0, 0) := mm_W_eq rf_hk_mono _
theorem r_cutOut_51 (ret : Option mV → rf_M → Prop) (μ : rf_M) (y : Int32) (l0 l1 l2 l3 : Option mV) : W_cutOut ret (51, [l0, l1, l2, l3, some (.inl y)], [.inr (some 36)], μ, 0, 0) = W_cutOut ret (53, [l0, l1, l2, l3, some (.inl y)], [.inl y, .inr (some 36)], μ, 0, 0) := mm_W_eq rf_hk_mono _
theorem r_cutOut_53 (ret : Option mV → rf_M → Prop) (μ : rf_M) (x0 : Int32) (ls : List (Option mV)) : W_cutOut ret (53, ls, [.inl x0, .inr (some 36)], μ, 0, 0) = W_cutOut ret (54, ls, [.inl (nI 1), .inl x0, .inr (some 36)], μ, 0, 0) := mm_W_eq rf_hk_mono _
theorem r_cutOut_54 (ret : Option mV → rf_M → Prop) (μ : rf_M) (x0 x1 : Int32) (ls : List (Option mV)) : W_cutOut ret (54, ls, [.inl x0, .inl x1, .inr (some 36)], μ, 0, 0) = W_cutOut ret (55, ls, [.inl (x1 - x0), .inr (some 36)], μ, 0, 0) := mm_W_eq rf_hk_mono _
theorem r_cutOut_55 (ret : Option mV → rf_M → Prop) (μ : rf_M) (x0 : Int32) (l1 l2 l3 l4 : Option mV) : W_cutOut ret (55, [some (.inr (some 39)), l1, l2, l3, l4], [.inl x0, .inr (some 36)], μ, 0, 0) = W_cutOut ret (56, [some (.inr (some 39)), l1, l2, l3, l4], [.inr (some 39), .inl x0, .inr (some 36)], μ, 0, 0) := mm_W_eq rf_hk_mono _
theorem r_cutOut_56 (ret : Option mV → rf_M → Prop) (μ : rf_M) (x1 : Int32) (l1 l2 l3 l4 : Option mV) : W_cutOut ret (56, [some (.inr (some 39)), l1, l2, l3, l4], [.inr (some 39), .inl x1, .inr (some 36)], μ, 0, 0) = W_cutOut ret (57, [some (.inr (some 39)), l1, l2, l3, l4], [.inr (some 39), .inr (some 39), .inl x1, .inr (some 36)], μ, 0, 0) := mm_W_eq rf_hk_mono _
theorem r_cutOut_57 (ret : Option mV → rf_M → Prop) (μ : rf_M) (x2 : Int32) (ls : List (Option mV)) : W_cutOut ret (57, ls, [.inr (some 39), .inr (some 39), .inl x2, .inr (some 36)], μ, 0, 0) = W_cutOut ret (60, ls, [.inr (some 36), .inr (some 39), .inl x2, .inr (some 36)], μ, 0, 0) := mm_W_eq rf_hk_mono _
theorem r_cutOut_60 (ret : Option mV → rf_M → Prop) (μ : rf_M) (x2 y : Int32) (l0 l1 l2 l3 : Option mV) : W_cutOut ret (60, [l0, l1, l2, l3, some (.inl y)], [.inr (some 36), .inr (some 39), .inl x2, .inr (some 36)], μ, 0, 0) = W_cutOut ret (62, [l0, l1, l2, l3, some (.inl y)], [.inl y, .inr (some 36), .inr (some 39), .inl x2, .inr (some 36)], μ, 0, 0) := mm_W_eq rf_hk_mono _
set_option maxRecDepth 8000 in
theorem r_cutOut_62 (ret : Option mV → rf_M → Prop) (μ : rf_M) (x0 x3 : Int32) (ls : List (Option mV)) : W_cutOut ret (62, ls, [.inl x0, .inr (some 36), .inr (some 39), .inl x3, .inr (some 36)], μ, 0, 0) = W_cutOut ret (63, ls, [.inl (nI 1), .inl x0, .inr (some 36), .inr (some 39), .inl x3, .inr (some 36)], μ, 0, 0) := mm_W_eq rf_hk_mono _
set_option maxRecDepth 8000 in
theorem r_cutOut_63 (ret : Option mV → rf_M → Prop) (μ : rf_M) (x0 x1 x4 : Int32) (ls : List (Option mV)) : W_cutOut ret (63, ls, [.inl x0, .inl x1, .inr (some 36), .inr (some 39), .inl x4, .inr (some 36)], μ, 0, 0) = W_cutOut ret (64, ls, [.inl (x1 - x0), .inr (some 36), .inr (some 39), .inl x4, .inr (some 36)], μ, 0, 0) := mm_W_eq rf_hk_mono _
set_option maxRecDepth 8000 in
theorem r_cutOut_64 (ret : Option mV → rf_M → Prop) (μ : rf_M) (x0 x3 : Int32) (ls : List (Option mV)) : W_cutOut ret (64, ls, [.inl x0, .inr (some 36), .inr (some 39), .inl x3, .inr (some 36)], μ, 0, 0) = (vp_in x0 512 ∧ W_cutOut ret (65, ls, [.inl (μ.2 36 x0.toNatClampNeg), .inr (some 39), .inl x3, .inr (some 36)], μ, 0, 0)) := mm_W_eq rf_hk_mono _
set_option maxRecDepth 8000 in
theorem r_cutOut_65 (ret : Option mV → rf_M → Prop) (μ : rf_M) (x0 x2 : Int32) (l1 l2 l3 l4 : Option mV) : W_cutOut ret (65, [some (.inr (some 39)), l1, l2, l3, l4], [.inl x0, .inr (some 39), .inl x2, .inr (some 36)], μ, 0, 0) = W_cutOut ret (66, [some (.inr (some 39)), l1, l2, l3, l4], [.inr (some 39), .inl x0, .inr (some 39), .inl x2, .inr (some 36)], μ, 0, 0) := mm_W_eq rf_hk_mono _
set_option maxRecDepth 8000 in
theorem r_cutOut_66 (ret : Option mV → rf_M → Prop) (μ : rf_M) (x1 x3 : Int32) (ls : List (Option mV)) : W_cutOut ret (66, ls, [.inr (some 39), .inl x1, .inr (some 39), .inl x3, .inr (some 36)], μ, 0, 0) = W_cutOut ret (69, ls, [.inr (some 36), .inl x1, .inr (some 39), .inl x3, .inr (some 36)], μ, 0, 0) := mm_W_eq rf_hk_mono _
set_option maxRecDepth 8000 in
theorem r_cutOut_69 (ret : Option mV → rf_M → Prop) (μ : rf_M) (x1 x3 y : Int32) (l0 l1 l2 l3 : Option mV) : W_cutOut ret (69, [l0, l1, l2, l3, some (.inl y)], [.inr (some 36), .inl x1, .inr (some 39), .inl x3, .inr (some 36)], μ, 0, 0) = W_cutOut ret (71, [l0, l1, l2, l3, some (.inl y)], [.inl y, .inr (some 36), .inl x1, .inr (some 39), .inl x3, .inr (some 36)], μ, 0, 0) := mm_W_eq rf_hk_mono _
set_option maxRecDepth 8000 in
theorem r_cutOut_71 (ret : Option mV → rf_M → Prop) (μ : rf_M) (x0 x2 x4 : Int32) (ls : List (Option mV)) : W_cutOut ret (71, ls, [.inl x0, .inr (some 36), .inl x2, .inr (some 39), .inl x4, .inr (some 36)], μ, 0, 0) = (vp_in x0 512 ∧ W_cutOut ret (72, ls, [.inl (μ.2 36 x0.toNatClampNeg), .inl x2, .inr (some 39), .inl x4, .inr (some 36)], μ, 0, 0)) := mm_W_eq rf_hk_mono _
set_option maxRecDepth 8000 in
theorem r_cutOut_72 (ret : Option mV → rf_M → Prop) (μ : rf_M) (x0 x1 x3 : Int32) (ls : List (Option mV)) : W_cutOut ret (72, ls, [.inl x0, .inl x1, .inr (some 39), .inl x3, .inr (some 36)], μ, 0, 0) = (∃ Q0 : Int32 → rf_M → Prop, P_joined [.inr (some 39), .inl x1, .inl x0] μ 0 0 (mI Q0) ∧ ∀ r s', Q0 r s' → W_cutOut ret (75, ls, [.inl r, .inl x3, .inr (some 36)], s', 0, 0)) := mm_W_eq rf_hk_mono _
set_option maxRecDepth 8000 in
theorem r_cutOut_75 (ret : Option mV → rf_M → Prop) (μ : rf_M) (x0 x1 : Int32) (ls : List (Option mV)) : W_cutOut ret (75, ls, [.inl x0, .inl x1, .inr (some 36)], μ, 0, 0) = (vp_in x1 512 ∧ W_cutOut ret (76, ls, [], (μ.1, rf_up μ.2 36 x1.toNatClampNeg x0), 0, 0)) := mm_W_eq rf_hk_mono _
set_option maxRecDepth 8000 in
theorem r_cutOut_76 (ret : Option mV → rf_M → Prop) (μ : rf_M) (ls : List (Option mV)) : W_cutOut ret (76, ls, [], μ, 0, 0) = W_cutOut ret (15, ls, [], μ, 0, 0) := mm_W_eq rf_hk_mono _
set_option maxRecDepth 8000 in
theorem r_cutOut_79 (ret : Option mV → rf_M → Prop) (μ : rf_M) (l1 l2 l3 l4 : Option mV) : W_cutOut ret (79, [some (.inr (some 39)), l1, l2, l3, l4], [], μ, 0, 0) = W_cutOut ret (80, [some (.inr (some 39)), l1, l2, l3, l4], [.inr (some 39)], μ, 0, 0) := mm_W_eq rf_hk_mono _
set_option maxRecDepth 8000 in
theorem r_cutOut_80 (ret : Option mV → rf_M → Prop) (μ : rf_M) (l1 l2 l3 l4 : Option mV) : W_cutOut ret (80, [some (.inr (some 39)), l1, l2, l3, l4], [.inr (some 39)], μ, 0, 0) = W_cutOut ret (81, [some (.inr (some 39)), l1, l2, l3, l4], [.inr (some 39), .inr (some 39)], μ, 0, 0) := mm_W_eq rf_hk_mono _
set_option maxRecDepth 8000 in
theorem r_cutOut_81 (ret : Option mV → rf_M → Prop) (μ : rf_M) (ls : List (Option mV)) : W_cutOut ret (81, ls, [.inr (some 39), .inr (some 39)], μ, 0, 0) = W_cutOut ret (84, ls, [.inr (some 32), .inr (some 39)], μ, 0, 0) := mm_W_eq rf_hk_mono _
set_option maxRecDepth 8000 in
theorem r_cutOut_84 (ret : Option mV → rf_M → Prop) (μ : rf_M) (l1 l2 l3 l4 : Option mV) : W_cutOut ret (84, [some (.inr (some 39)), l1, l2, l3, l4], [.inr (some 32), .inr (some 39)], μ, 0, 0) = W_cutOut ret (85, [some (.inr (some 39)), l1, l2, l3, l4], [.inr (some 39), .inr (some 32), .inr (some 39)], μ, 0, 0) := mm_W_eq rf_hk_mono _
set_option maxRecDepth 8000 in
theorem r_cutOut_85 (ret : Option mV → rf_M → Prop) (μ : rf_M) (ls : List (Option mV)) : W_cutOut ret (85, ls, [.inr (some 39), .inr (some 32), .inr (some 39)], μ, 0, 0) = W_cutOut ret (88, ls, [.inl (μ.1 35), .inr (some 32), .inr (some 39)], μ, 0, 0) := mm_W_eq rf_hk_mono _
set_option maxRecDepth 8000 in
theorem r_cutOut_88 (ret : Option mV → rf_M → Prop) (μ : rf_M) (x0 : Int32) (ls : List (Option mV)) : W_cutOut ret (88, ls, [.inl x0, .inr (some 32), .inr (some 39)], μ, 0, 0) = (vp_in x0 512 ∧ W_cutOut ret (89, ls, [.inl (μ.2 32 x0.toNatClampNeg), .inr (some 39)], μ, 0, 0)) := mm_W_eq rf_hk_mono _
set_option maxRecDepth 8000 in
theorem r_cutOut_89 (ret : Option mV → rf_M → Prop) (μ : rf_M) (x0 : Int32) (l1 l2 l3 l4 : Option mV) : W_cutOut ret (89, [some (.inr (some 39)), l1, l2, l3, l4], [.inl x0, .inr (some 39)], μ, 0, 0) = W_cutOut ret (90, [some (.inr (some 39)), l1, l2, l3, l4], [.inr (some 39), .inl x0, .inr (some 39)], μ, 0, 0) := mm_W_eq rf_hk_mono _
set_option maxRecDepth 8000 in
theorem r_cutOut_90 (ret : Option mV → rf_M → Prop) (μ : rf_M) (x1 : Int32) (ls : List (Option mV)) : W_cutOut ret (90, ls, [.inr (some 39), .inl x1, .inr (some 39)], μ, 0, 0) = W_cutOut ret (93, ls, [.inr (some 33), .inl x1, .inr (some 39)], μ, 0, 0) := mm_W_eq rf_hk_mono _
set_option maxRecDepth 8000 in
theorem r_cutOut_93 (ret : Option mV → rf_M → Prop) (μ : rf_M) (x1 : Int32) (l1 l2 l3 l4 : Option mV) : W_cutOut ret (93, [some (.inr (some 39)), l1, l2, l3, l4], [.inr (some 33), .inl x1, .inr (some 39)], μ, 0, 0) = W_cutOut ret (94, [some (.inr (some 39)), l1, l2, l3, l4], [.inr (some 39), .inr (some 33), .inl x1, .inr (some 39)], μ, 0, 0) := mm_W_eq rf_hk_mono _
set_option maxRecDepth 8000 in
theorem r_cutOut_94 (ret : Option mV → rf_M → Prop) (μ : rf_M) (x2 : Int32) (ls : List (Option mV)) : W_cutOut ret (94, ls, [.inr (some 39), .inr (some 33), .inl x2, .inr (some 39)], μ, 0, 0) = W_cutOut ret (97, ls, [.inl (μ.1 35), .inr (some 33), .inl x2, .inr (some 39)], μ, 0, 0) := mm_W_eq rf_hk_mono _
set_option maxRecDepth 8000 in
theorem r_cutOut_97 (ret : Option mV → rf_M → Prop) (μ : rf_M) (x0 x2 : Int32) (ls : List (Option mV)) : W_cutOut ret (97, ls, [.inl x0, .inr (some 33), .inl x2, .inr (some 39)], μ, 0, 0) = (vp_in x0 512 ∧ W_cutOut ret (98, ls, [.inl (μ.2 33 x0.toNatClampNeg), .inl x2, .inr (some 39)], μ, 0, 0)) := mm_W_eq rf_hk_mono _
set_option maxRecDepth 8000 in
theorem r_cutOut_98 (ret : Option mV → rf_M → Prop) (μ : rf_M) (x0 x1 : Int32) (l1 l2 l3 l4 : Option mV) : W_cutOut ret (98, [some (.inr (some 39)), l1, l2, l3, l4], [.inl x0, .inl x1, .inr (some 39)], μ, 0, 0) = W_cutOut ret (99, [some (.inr (some 39)), l1, l2, l3, l4], [.inr (some 39), .inl x0, .inl x1, .inr (some 39)], μ, 0, 0) := mm_W_eq rf_hk_mono _
set_option maxRecDepth 8000 in
theorem r_cutOut_99 (ret : Option mV → rf_M → Prop) (μ : rf_M) (x1 x2 : Int32) (ls : List (Option mV)) : W_cutOut ret (99, ls, [.inr (some 39), .inl x1, .inl x2, .inr (some 39)], μ, 0, 0) = W_cutOut ret (102, ls, [.inr (some 34), .inl x1, .inl x2, .inr (some 39)], μ, 0, 0) := mm_W_eq rf_hk_mono _
set_option maxRecDepth 8000 in
theorem r_cutOut_102 (ret : Option mV → rf_M → Prop) (μ : rf_M) (x1 x2 : Int32) (l1 l2 l3 l4 : Option mV) : W_cutOut ret (102, [some (.inr (some 39)), l1, l2, l3, l4], [.inr (some 34), .inl x1, .inl x2, .inr (some 39)], μ, 0, 0) = W_cutOut ret (103, [some (.inr (some 39)), l1, l2, l3, l4], [.inr (some 39), .inr (some 34), .inl x1, .inl x2, .inr (some 39)], μ, 0, 0) := mm_W_eq rf_hk_mono _
set_option maxRecDepth 8000 in
theorem r_cutOut_103 (ret : Option mV → rf_M → Prop) (μ : rf_M) (x2 x3 : Int32) (ls : List (Option mV)) : W_cutOut ret (103, ls, [.inr (some 39), .inr (some 34), .inl x2, .inl x3, .inr (some 39)], μ, 0, 0) = W_cutOut ret (106, ls, [.inl (μ.1 35), .inr (some 34), .inl x2, .inl x3, .inr (some 39)], μ, 0, 0) := mm_W_eq rf_hk_mono _
set_option maxRecDepth 8000 in
theorem r_cutOut_106 (ret : Option mV → rf_M → Prop) (μ : rf_M) (x0 x2 x3 : Int32) (ls : List (Option mV)) : W_cutOut ret (106, ls, [.inl x0, .inr (some 34), .inl x2, .inl x3, .inr (some 39)], μ, 0, 0) = (vp_in x0 512 ∧ W_cutOut ret (107, ls, [.inl (μ.2 34 x0.toNatClampNeg), .inl x2, .inl x3, .inr (some 39)], μ, 0, 0)) := mm_W_eq rf_hk_mono _
set_option maxRecDepth 8000 in
theorem r_cutOut_107 (ret : Option mV → rf_M → Prop) (μ : rf_M) (x0 x1 x2 y : Int32) (l0 l1 l2 l3 : Option mV) : W_cutOut ret (107, [l0, l1, l2, l3, some (.inl y)], [.inl x0, .inl x1, .inl x2, .inr (some 39)], μ, 0, 0) = W_cutOut ret (109, [l0, l1, l2, l3, some (.inl y)], [.inl y, .inl x0, .inl x1, .inl x2, .inr (some 39)], μ, 0, 0) := mm_W_eq rf_hk_mono _
set_option maxRecDepth 8000 in
theorem r_cutOut_109 (ret : Option mV → rf_M → Prop) (μ : rf_M) (x0 x1 x2 x3 : Int32) (ls : List (Option mV)) : W_cutOut ret (109, ls, [.inl x0, .inl x1, .inl x2, .inl x3, .inr (some 39)], μ, 0, 0) = (∃ Q0 : Int32 → rf_M → Prop, P_cutOne [.inr (some 39), .inl x3, .inl x2, .inl x1, .inl x0] μ 0 0 (mI Q0) ∧ ∀ r s', Q0 r s' → W_cutOut ret (112, ls, [.inl r], s', 0, 0)) := mm_W_eq rf_hk_mono _
set_option maxRecDepth 8000 in
theorem r_cutOut_112 (ret : Option mV → rf_M → Prop) (μ : rf_M) (x0 : Int32) (l0 l1 l2 l3 l4 : Option mV) : W_cutOut ret (112, [l0, l1, l2, l3, l4], [.inl x0], μ, 0, 0) = W_cutOut ret (114, [l0, l1, l2, l3, some (.inl x0)], [], μ, 0, 0) := mm_W_eq rf_hk_mono _
set_option maxRecDepth 8000 in
theorem r_cutOut_114 (ret : Option mV → rf_M → Prop) (μ : rf_M) (ls : List (Option mV)) : W_cutOut ret (114, ls, [], μ, 0, 0) = W_cutOut ret (15, ls, [], μ, 0, 0) := mm_W_eq rf_hk_mono _
set_option maxRecDepth 8000 in
theorem r_cutOut_117 (ret : Option mV → rf_M → Prop) (μ : rf_M) (l1 l2 l3 l4 : Option mV) : W_cutOut ret (117, [some (.inr (some 39)), l1, l2, l3, l4], [], μ, 0, 0) = W_cutOut ret (118, [some (.inr (some 39)), l1, l2, l3, l4], [.inr (some 39)], μ, 0, 0) := mm_W_eq rf_hk_mono _
set_option maxRecDepth 8000 in
theorem r_cutOut_118 (ret : Option mV → rf_M → Prop) (μ : rf_M) (ls : List (Option mV)) : W_cutOut ret (118, ls, [.inr (some 39)], μ, 0, 0) = W_cutOut ret (121, ls, [.inr (some 36)], μ, 0, 0) := mm_W_eq rf_hk_mono _
set_option maxRecDepth 8000 in
theorem r_cutOut_121 (ret : Option mV → rf_M → Prop) (μ : rf_M) (ls : List (Option mV)) : W_cutOut ret (121, ls, [.inr (some 36)], μ, 0, 0) = W_cutOut ret (122, ls, [.inl (nI 0), .inr (some 36)], μ, 0, 0) := mm_W_eq rf_hk_mono _
set_option maxRecDepth 8000 in
theorem r_cutOut_122 (ret : Option mV → rf_M → Prop) (μ : rf_M) (x0 : Int32) (ls : List (Option mV)) : W_cutOut ret (122, ls, [.inl x0, .inr (some 36)], μ, 0, 0) = (vp_in x0 512 ∧ W_cutOut ret (123, ls, [.inl (μ.2 36 x0.toNatClampNeg)], μ, 0, 0)) := mm_W_eq rf_hk_mono _
set_option maxRecDepth 8000 in
theorem r_cutOut_123 (ret : Option mV → rf_M → Prop) (μ : rf_M) (x0 : Int32) (ls : List (Option mV)) : W_cutOut ret (123, ls, [.inl x0], μ, 0, 0) = ret (some (.inl x0)) μ := mm_W_eq rf_hk_mono _
theorem e_cutOut (a0 a1 a2 : Int32) (μ : rf_M) (ret : Option mV → rf_M → Prop) (h : W_cutOut ret (0, [some (.inr (some 39)), some (.inl a0), some (.inl a1), some (.inl a2), none], [], μ, 0, 0)) : P_cutOut [.inr (some 39), .inl a0, .inl a1, .inl a2] μ 0 0 ret := ⟨rfl, Nat.le_of_ble_eq_true rfl, h⟩
theorem so_cutOut (l : Launch) (D : va_G) (cs sa ad : Nat → Nat) (A : Nat → Prop) : mm_So l (rf_W D cs ad A) (kk D cs sa A) ad A yX7_cutOut cX7_cutOut 5 (some .int) 4 P_cutOut := rf_So (rf_sound (by decide) (by decide +kernel) rfl (fun p e mc ms s0 m args below meth c F hK hA => List.forall_mem_cons.mpr ⟨mm_CSV F hK (kk_KW D cs sa A) hA (so_toCut l D cs sa ad A) (by decide) (by decide) wd_804 wd_806 wd_36 wd_56 wd_807 ⟨rfl, by decide, by decide, rfl⟩ (rf_recv hK), List.forall_mem_cons.mpr ⟨mm_CSV F hK (kk_KW D cs sa A) hA (so_joined l D cs sa ad A) (by decide) (by decide) wd_768 wd_770 wd_28 wd_56 wd_771 ⟨rfl, by decide, by decide, rfl⟩ (rf_recv hK), List.forall_mem_cons.mpr ⟨mm_CSV F hK (kk_KW D cs sa A) hA (so_cutOne l D cs sa ad A) (by decide) (by decide) wd_808 wd_810 wd_37 wd_56 wd_811 ⟨rfl, by decide, by decide, rfl⟩ (rf_recv hK), fun _ h => absurd h List.not_mem_nil⟩⟩⟩))
