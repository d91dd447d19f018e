/-! ===== the reference: texts move up ===== -/
theorem bst_succ : ∀ (bs : List (Nat × Nat)) (i : Nat) (q : Nat × Nat), bs[i]? = some q → bst bs (i + 1) = bst bs i + 2 + q.2
  | [], i, q, h => by simp at h
  | p :: r, 0, q, h => by
    cases h
    simp only [bst]
    cases r <;> simp [bst]
  | p :: r, i + 1, q, h => by
    have := bst_succ r i q (by simpa using h)
    have e1 : bst (p :: r) (i + 1 + 1) = 2 + p.2 + bst r (i + 1) := rfl
    have e2 : bst (p :: r) (i + 1) = 2 + p.2 + bst r i := rfl
    omega
theorem bst_lt (bs : List (Nat × Nat)) : ∀ (d i : Nat), i + d + 1 ≤ bs.length → bst bs i + 2 ≤ bst bs (i + d + 1)
  | 0, i, h => by
    have := bst_succ bs i _ (List.getElem?_eq_getElem (show i < bs.length by omega))
    show bst bs i + 2 ≤ bst bs (i + 1)
    omega
  | d + 1, i, h => by
    have := bst_lt bs d i (by omega)
    have := bst_succ bs (i + d + 1) _ (List.getElem?_eq_getElem (show i + d + 1 < bs.length by omega))
    rw [show i + (d + 1) + 1 = i + d + 1 + 1 by omega]; omega
theorem bst_mono {bs : List (Nat × Nat)} {i k : Nat} (h : i < k) (hk : k ≤ bs.length) : bst bs i + 2 ≤ bst bs k := by
  have := bst_lt bs (k - i - 1) i (by omega)
  rwa [show i + (k - i - 1) + 1 = k by omega] at this
theorem bst_sum : ∀ (bs : List (Nat × Nat)), bst bs bs.length = (bs.map (fun q => 2 + q.2)).sum
  | [] => rfl
  | q :: r => by
    have := bst_sum r
    simp only [List.length_cons, List.map_cons, List.sum_cons]
    rw [← this]; rfl
def mvf (f : Nat → Int32) (a b k : Nat) : Nat → Int32 := fun j => if a ≤ j ∧ j < a + k then f (b + (j - a)) else f j
theorem mvf_step (f : Nat → Int32) {a b k : Nat} (h : a ≤ b) : upd (mvf f a b k) (a + k) (mvf f a b k (b + k)) = mvf f a b (k + 1) := by
  funext j
  by_cases hj : j = a + k
  · subst hj
    rw [pk_us]
    simp only [mvf]
    rw [if_neg (by omega), if_pos (by omega)]
    congr 1; omega
  · rw [pk_un hj]
    simp only [mvf]
    by_cases h1 : a ≤ j ∧ j < a + k
    · rw [if_pos h1, if_pos (by omega)]
    · rw [if_neg h1, if_neg (by omega)]
theorem mvf_0 (f : Nat → Int32) (a b : Nat) : mvf f a b 0 = f := by
  funext j
  simp only [mvf]
  rw [if_neg (by omega)]
theorem mvf_lt {f : Nat → Int32} {a b k j : Nat} (h : j < a) : mvf f a b k j = f j := by
  simp only [mvf]; rw [if_neg (by omega)]
theorem mvf_ge {f : Nat → Int32} {a b k j : Nat} (h : a + k ≤ j) : mvf f a b k j = f j := by
  simp only [mvf]; rw [if_neg (by omega)]
theorem mvf_in {f : Nat → Int32} {a b k j : Nat} (h : j < k) : mvf f a b k (a + j) = f (b + j) := by
  simp only [mvf]; rw [if_pos (by omega)]; congr 1; omega
/-- the blocks of these cells -/
def blk (T : sT) (ι : Nat → Nat) (cs : List Nat) : List (Nat × Nat) := cs.map (fun c => (ι c, (lfT T c).length))
def muA (T : sT) (ι : Nat → Nat) (μ : rf_M) (bs : List (Nat × Nat)) (c : Nat) (t : List Int32) (k : Nat) : Prop := T c = some (.inl t) ∧ bs[k]? = some (ι c, t.length) ∧ μ.2 1 (ι c) = nI (bst bs k + 2) ∧ ∀ j x, t[j]? = some x → μ.2 7 (bst bs k + 2 + j) = x
def muI (T : sT) (ι : Nat → Nat) (μ : rf_M) (bs : List (Nat × Nat)) (i : Nat) (cs : List Nat) (μ1 : rf_M) : Prop :=
  i ≤ bs.length ∧ CH [1, 7] μ μ1 ∧ cs.Nodup ∧ (∀ c ∈ cs, ∃ t k, k < i ∧ muA T ι μ bs c t k) ∧ bst (blk T ι cs) cs.length ≤ bst bs i ∧ BK (μ1.2 7) 0 (blk T ι cs) (bst (blk T ι cs) cs.length) ∧ (∀ j, bst bs i ≤ j → μ1.2 7 j = μ.2 7 j) ∧
  (∀ c t k, muA T ι μ bs c t k → (k < i → ∃ j, cs[j]? = some c ∧ μ1.2 1 (ι c) = nI (bst (blk T ι cs) j + 2) ∧ ∀ p x, t[p]? = some x → μ1.2 7 (bst (blk T ι cs) j + 2 + p) = x) ∧ (i ≤ k → μ1.2 1 (ι c) = μ.2 1 (ι c))) ∧ (∀ j, j < 20480 → ¬ μ.2 0 j = nI 1 → μ1.2 1 j = μ.2 1 j)
theorem blk_len (T : sT) (ι : Nat → Nat) (cs : List Nat) : (blk T ι cs).length = cs.length := by simp [blk]
theorem muA_u {T : sT} {ι : Nat → Nat} {μ : rf_M} {bs : List (Nat × Nat)} {e : Nat} (hb : BK (μ.2 7) 0 bs e) (he : e ≤ 81920) {c : Nat} {t t' : List Int32} {k k' : Nat} (h : muA T ι μ bs c t k) (h' : muA T ι μ bs c t' k') : k = k' ∧ t = t' := by
  have e1 : t = t' := by
    have := h.1.symm.trans h'.1
    cases this; rfl
  refine ⟨?_, e1⟩
  have b1 := BK_at bs 0 e k _ hb h.2.1
  have b2 := BK_at bs 0 e k' _ hb h'.2.1
  have l1 := (List.getElem?_eq_some_iff.mp h.2.1).1
  have l2 := (List.getElem?_eq_some_iff.mp h'.2.1).1
  dsimp only at b1 b2
  have e2 := h.2.2.1.symm.trans h'.2.2.1
  rw [nI_eq (by omega) (by omega)] at e2
  rcases Nat.lt_trichotomy k k' with hk | hk | hk
  · have := bst_mono hk (by omega : k' ≤ bs.length); omega
  · exact hk
  · have := bst_mono hk (by omega : k ≤ bs.length); omega
set_option maxHeartbeats 4000000 in
theorem k_moveUp {T : sT} {ι : Nat → Nat} {μ : rf_M} {B sp e : Nat} (h : RR T ι μ B sp e) (hall : ∀ j, j < 20480 → μ.2 0 j = nI 1 → ∃ c, T c ≠ none ∧ ι c = j) : P_moveUp [.inr (some 39)] μ 0 0 (mN (fun μ' => ∃ cs : List Nat, cs.Nodup ∧ (∀ c ∈ cs, ∃ t, T c = some (.inl t)) ∧ CH [1, 7, 8] μ μ' ∧ RR T ι μ' B sp (cs.map (fun c => 2 + (lfT T c).length)).sum)) := by
  refine e_moveUp μ _ ?_
  generalize hret : (mN (fun μ' => ∃ cs : List Nat, cs.Nodup ∧ (∀ c ∈ cs, ∃ t, T c = some (.inl t)) ∧ CH [1, 7, 8] μ μ' ∧ RR T ι μ' B sp (cs.map (fun c => 2 + (lfT T c).length)).sum)) = ret
  obtain ⟨a1, a2, a3, a4, a5, a6, a7, a8, a9, bs, b1, b2⟩ := h
  have bE := BK_end bs 0 e b1
  rw [Nat.zero_add] at bE
  have hleaf : ∀ c t, T c = some (.inl t) → ∃ k, muA T ι μ bs c t k := fun c t hc => by
    obtain ⟨k, k1, k2, k3⟩ := b2 c t hc
    exact ⟨k, hc, k1, k2, k3⟩
  have key : ∀ x : Nat × List Nat × rf_M × Option mV × Option mV × Option mV, muI T ι μ bs x.1 x.2.1 x.2.2.1 → W_moveUp ret (4, [some (.inr (some 39)), some (.inl (nI (bst (blk T ι x.2.1) x.2.1.length))), some (.inl (nI (bst bs x.1))), x.2.2.2.1, x.2.2.2.2.1, x.2.2.2.2.2], [], x.2.2.1, 0, 0) := by
    refine mm_loop _ _ (fun x => bs.length - x.1) ?_
    rintro ⟨i, cs, μ1, l3, l4, l5⟩ ⟨i0, i1, i2, i3, i4, i5, i6, i7, i8⟩ ih
    dsimp only at i0 i1 i2 i3 i4 i5 i6 i7 i8 ⊢
    have hos := blk_len T ι cs
    have g8 : μ1.1 8 = nI e := by rw [(i1 8 (by decide)).1]; exact a8
    have g0 : μ1.2 0 = μ.2 0 := (i1 0 (by decide)).2
    have hto : bst bs i ≤ e := by
      rcases Nat.lt_or_ge i bs.length with hl | hl
      · have := bst_mono hl (Nat.le_refl _); omega
      · rw [show i = bs.length by omega]; omega
    rw [r_moveUp_4]
    simp only [r_moveUp_0, r_moveUp_1, r_moveUp_2, r_moveUp_3, r_moveUp_5, r_moveUp_6, r_moveUp_9, r_moveUp_12, r_moveUp_13, r_moveUp_16, r_moveUp_17, r_moveUp_18, r_moveUp_19, r_moveUp_20, r_moveUp_23, r_moveUp_24, r_moveUp_25, r_moveUp_26, r_moveUp_27, r_moveUp_29, r_moveUp_30, r_moveUp_33, r_moveUp_34, r_moveUp_35, r_moveUp_36, r_moveUp_39, r_moveUp_40, r_moveUp_43, r_moveUp_44, r_moveUp_45, r_moveUp_46, r_moveUp_47, r_moveUp_48, r_moveUp_51, r_moveUp_52, r_moveUp_56, r_moveUp_58, r_moveUp_59, r_moveUp_60, r_moveUp_63, r_moveUp_64, r_moveUp_67, r_moveUp_68, r_moveUp_70, r_moveUp_71, r_moveUp_72, r_moveUp_75, r_moveUp_76, r_moveUp_78, r_moveUp_79, r_moveUp_80, r_moveUp_81, r_moveUp_84, r_moveUp_87, r_moveUp_88, r_moveUp_91, r_moveUp_92, r_moveUp_93, r_moveUp_94, r_moveUp_95, r_moveUp_96, r_moveUp_97, r_moveUp_99, r_moveUp_100, r_moveUp_101, r_moveUp_102, r_moveUp_104, r_moveUp_106, r_moveUp_107, r_moveUp_108, r_moveUp_109, r_moveUp_110, r_moveUp_113, r_moveUp_114, r_moveUp_115, r_moveUp_118, g8, nI_leI (show e < 2 ^ 31 by omega) (show bst bs i < 2 ^ 31 by omega)]
    refine ⟨fun hle => ?_, fun hle => ?_⟩
    · have hi : i = bs.length := by
        rcases Nat.lt_or_ge i bs.length with hl | hl
        · have := bst_mono hl (Nat.le_refl _); omega
        · omega
      subst hi
      subst hret
      rw [mN_e]
      have hsum : (cs.map (fun c => 2 + (lfT T c).length)).sum = bst (blk T ι cs) cs.length := by
        rw [← hos, bst_sum, blk, List.map_map]; rfl
      refine ⟨cs, i2, fun c hc => ?_, CH_i2 (CH_w i1 (by decide)) (by decide), fun c v hv => ?_, a2, a3, a4, ?_, ?_, ?_, ?_, ?_, blk T ι cs, ?_, fun c t hc => ?_⟩
      · obtain ⟨t, k, -, hA⟩ := i3 c hc
        exact ⟨t, hA.1⟩
      · obtain ⟨c1, c2, c3⟩ := a1 c v hv
        refine ⟨c1, ?_, ?_⟩
        · rcases v with t | q | q
          · show μ1.2 0 (ι c) = nI 1
            rw [g0]; exact c2
          · show μ1.2 0 (ι c) = nI 2 ∧ μ1.2 1 (ι c) = _ ∧ μ1.2 2 (ι c) = _
            rw [g0, i8 _ c1 (by rw [c2.1]; decide), (i1 2 (by decide)).2]; exact c2
          · show μ1.2 0 (ι c) = nI 3 ∧ μ1.2 1 (ι c) = _ ∧ μ1.2 2 (ι c) = _
            rw [g0, i8 _ c1 (by rw [c2.1]; decide), (i1 2 (by decide)).2]; exact c2
        · show μ1.2 3 (ι c) = _
          rw [(i1 3 (by decide)).2]; exact c3
      · obtain ⟨la, l1, l2⟩ := a5
        exact ⟨la, by show upd μ1.1 8 (nI (bst (blk T ι cs) cs.length)) 6 = _; rw [pk_un (by decide), (i1 6 (by decide)).1]; exact l1, l2⟩
      · show upd μ1.1 8 (nI (bst (blk T ι cs) cs.length)) 5 = _
        rw [pk_un (by decide), (i1 5 (by decide)).1]; exact a6
      · show sp = FZ (μ1.2 0) 20480
        rw [g0]; exact a7
      · show upd μ1.1 8 (nI (bst (blk T ι cs) cs.length)) 8 = _
        rw [pk_us, hsum]
      · rw [hsum]; omega
      · rw [hsum]; exact i5
      · obtain ⟨k, hA⟩ := hleaf c t hc
        obtain ⟨j, j1, j2, j3⟩ := (i7 c t k hA).1 (List.getElem?_eq_some_iff.mp hA.2.1).1
        refine ⟨j, ?_, j2, j3⟩
        simp only [blk, List.getElem?_map, j1, Option.map_some, lfT, hc]
    · have hil : i < bs.length := by
        rcases Nat.lt_or_ge i bs.length with hl | hl
        · exact hl
        · rw [show i = bs.length by omega] at hle; omega
      obtain ⟨⟨ci, n⟩, hq⟩ : ∃ q, bs[i]? = some q := ⟨_, List.getElem?_eq_getElem hil⟩
      obtain ⟨q1, q2, q3, q4, q5⟩ := BK_at bs 0 e i _ b1 hq
      dsimp only at q1 q2 q3 q4 q5
      rw [Nat.zero_add] at q1 q2 q3
      have q2' : μ1.2 7 (bst bs i) = nI ci := by rw [i6 _ (Nat.le_refl _)]; exact q2
      have q3' : μ1.2 7 (bst bs i + 1) = nI n := by rw [i6 _ (by omega)]; exact q3
      have hsu := bst_succ bs i _ hq
      dsimp only at hsu
      simp only [nI_add, nI_clamp (show bst bs i < 2 ^ 31 by omega), vp_in_i (show bst bs i < 2 ^ 31 by omega), nI_clamp (show bst bs i + 1 < 2 ^ 31 by omega), vp_in_i (show bst bs i + 1 < 2 ^ 31 by omega), show bst bs i < 81920 by omega, show bst bs i + 1 < 81920 by omega, true_and, q2', q3', nI_clamp (show ci < 2 ^ 31 by omega), vp_in_i (show ci < 2 ^ 31 by omega), q4, g0]
      -- the step on
      have step : ∀ (cs' : List Nat) (μ2 : rf_M) (l5 : Option mV), muI T ι μ bs (i + 1) cs' μ2 → W_moveUp ret (103, [some (.inr (some 39)), some (.inl (nI (bst (blk T ι cs') cs'.length))), some (.inl (nI (bst bs i))), some (.inl (nI ci)), some (.inl (nI n)), l5], [], μ2, 0, 0) := by
        intro cs' μ2 l5 hI
        rw [r_moveUp_103]
        simp only [r_moveUp_0, r_moveUp_1, r_moveUp_2, r_moveUp_3, r_moveUp_5, r_moveUp_6, r_moveUp_9, r_moveUp_12, r_moveUp_13, r_moveUp_16, r_moveUp_17, r_moveUp_18, r_moveUp_19, r_moveUp_20, r_moveUp_23, r_moveUp_24, r_moveUp_25, r_moveUp_26, r_moveUp_27, r_moveUp_29, r_moveUp_30, r_moveUp_33, r_moveUp_34, r_moveUp_35, r_moveUp_36, r_moveUp_39, r_moveUp_40, r_moveUp_43, r_moveUp_44, r_moveUp_45, r_moveUp_46, r_moveUp_47, r_moveUp_48, r_moveUp_51, r_moveUp_52, r_moveUp_56, r_moveUp_58, r_moveUp_59, r_moveUp_60, r_moveUp_63, r_moveUp_64, r_moveUp_67, r_moveUp_68, r_moveUp_70, r_moveUp_71, r_moveUp_72, r_moveUp_75, r_moveUp_76, r_moveUp_78, r_moveUp_79, r_moveUp_80, r_moveUp_81, r_moveUp_84, r_moveUp_87, r_moveUp_88, r_moveUp_91, r_moveUp_92, r_moveUp_93, r_moveUp_94, r_moveUp_95, r_moveUp_96, r_moveUp_97, r_moveUp_99, r_moveUp_100, r_moveUp_101, r_moveUp_102, r_moveUp_104, r_moveUp_106, r_moveUp_107, r_moveUp_108, r_moveUp_109, r_moveUp_110, r_moveUp_113, r_moveUp_114, r_moveUp_115, r_moveUp_118, nI_add]
        have hh := ih (i + 1, cs', μ2, some (.inl (nI ci)), some (.inl (nI n)), l5) hI (by dsimp only; omega)
        dsimp only at hh
        rw [hsu, show bst bs i + 2 + n = bst bs i + (n + 2) by omega] at hh
        exact hh
      have skip : (∀ c t, ¬ muA T ι μ bs c t i) → muI T ι μ bs (i + 1) cs μ1 := fun hno => by
        refine ⟨by omega, i1, i2, fun c hc => ?_, by omega, i5, fun j hj => i6 j (by omega), fun c t k hA => ⟨fun hk => ?_, fun hk => (i7 c t k hA).2 (by omega)⟩, i8⟩
        · obtain ⟨t, k, hk, hA⟩ := i3 c hc
          exact ⟨t, k, by omega, hA⟩
        · by_cases hki : k = i
          · subst hki; exact absurd hA (hno c t)
          · exact (i7 c t k hA).1 (by omega)
      have noA : ∀ c t, muA T ι μ bs c t i → ci = ι c ∧ n = t.length ∧ μ.2 0 ci = nI 1 ∧ μ1.2 1 ci = nI (bst bs i + 2) := fun c t hA => by
        have e1 := hq.symm.trans hA.2.1
        cases e1
        exact ⟨rfl, rfl, (a1 c _ hA.1).2.1, by rw [(i7 c t i hA).2 (Nat.le_refl _)]; exact hA.2.2.1⟩
      refine ⟨fun hk => step cs μ1 l5 (skip (fun c t hA => hk (noA c t hA).2.2.1)), fun hk => ⟨fun ho => step cs μ1 l5 (skip (fun c t hA => ho (noA c t hA).2.2.2)), fun ho => ?_⟩⟩
      have hk := Classical.not_not.mp hk
      have ho := Classical.not_not.mp ho
      obtain ⟨c, hcn, rfl⟩ := hall ci q4 hk
      -- the cell has its text here
      have hct : ∃ t, T c = some (.inl t) := by
        obtain ⟨v, hv⟩ := Option.ne_none_iff_exists'.mp hcn
        obtain ⟨-, c2, -⟩ := a1 c v hv
        rcases v with t | q | q
        · exact ⟨t, hv⟩
        · exact absurd (c2.1.symm.trans hk) (by decide)
        · exact absurd (c2.1.symm.trans hk) (by decide)
      obtain ⟨t, hct⟩ := hct
      obtain ⟨k, hA⟩ := hleaf c t hct
      have hkl := (List.getElem?_eq_some_iff.mp hA.2.1).1
      have hki : k = i := by
        rcases Nat.lt_trichotomy k i with hlt | heq | hgt
        · obtain ⟨j, j1, j2, j3⟩ := (i7 c t k hA).1 hlt
          rw [ho] at j2
          have hjl := (List.getElem?_eq_some_iff.mp j1).1
          have hat := BK_at _ 0 _ j _ i5 (List.getElem?_eq_getElem (show j < (blk T ι cs).length by omega))
          rw [Nat.zero_add] at hat
          rw [nI_eq (by omega) (by omega)] at j2
          omega
        · exact heq
        · have h1 := (i7 c t k hA).2 (by omega)
          rw [ho, hA.2.2.1] at h1
          have := bst_mono hgt (by omega : k ≤ bs.length)
          have := BK_at bs 0 e k _ b1 hA.2.1
          dsimp only at this
          rw [nI_eq (by omega) (by omega)] at h1
          omega
      subst hki
      have hn : n = t.length := (noA c t hA).2.1
      have hlf : (lfT T c).length = n := by simp only [lfT, hct]; exact hn.symm
      have hcno : c ∉ cs := fun hc => by
        obtain ⟨t', k', hk', hA'⟩ := i3 c hc
        have := (muA_u b1 a9 hA hA').1
        omega
      have hblk : blk T ι (cs ++ [c]) = blk T ι cs ++ [(ι c, n)] := by simp only [blk, List.map_append, List.map_cons, List.map_nil, hlf]
      have hto2 : bst (blk T ι (cs ++ [c])) (cs ++ [c]).length = bst (blk T ι cs) cs.length + 2 + n := by
        rw [hblk, List.length_append, List.length_singleton, bst_succ _ cs.length (ι c, n) (by rw [List.getElem?_append_right (by omega), hos, Nat.sub_self]; rfl), bst_app _ _ _ (by omega)]
      generalize hgto : bst (blk T ι cs) cs.length = to at i4 i5 hto2 ⊢
      have inner : ∀ y : Nat, y ≤ n + 2 → W_moveUp ret (54, [some (.inr (some 39)), some (.inl (nI to)), some (.inl (nI (bst bs k))), some (.inl (nI (ι c))), some (.inl (nI n)), some (.inl (nI y))], [], (μ1.1, rf_set μ1.2 7 (mvf (μ1.2 7) to (bst bs k) y)), 0, 0) := by
        refine mm_loop _ _ (fun y => n + 2 - y) ?_
        intro y hy ih2
        rw [r_moveUp_54]
        simp only [r_moveUp_0, r_moveUp_1, r_moveUp_2, r_moveUp_3, r_moveUp_5, r_moveUp_6, r_moveUp_9, r_moveUp_12, r_moveUp_13, r_moveUp_16, r_moveUp_17, r_moveUp_18, r_moveUp_19, r_moveUp_20, r_moveUp_23, r_moveUp_24, r_moveUp_25, r_moveUp_26, r_moveUp_27, r_moveUp_29, r_moveUp_30, r_moveUp_33, r_moveUp_34, r_moveUp_35, r_moveUp_36, r_moveUp_39, r_moveUp_40, r_moveUp_43, r_moveUp_44, r_moveUp_45, r_moveUp_46, r_moveUp_47, r_moveUp_48, r_moveUp_51, r_moveUp_52, r_moveUp_56, r_moveUp_58, r_moveUp_59, r_moveUp_60, r_moveUp_63, r_moveUp_64, r_moveUp_67, r_moveUp_68, r_moveUp_70, r_moveUp_71, r_moveUp_72, r_moveUp_75, r_moveUp_76, r_moveUp_78, r_moveUp_79, r_moveUp_80, r_moveUp_81, r_moveUp_84, r_moveUp_87, r_moveUp_88, r_moveUp_91, r_moveUp_92, r_moveUp_93, r_moveUp_94, r_moveUp_95, r_moveUp_96, r_moveUp_97, r_moveUp_99, r_moveUp_100, r_moveUp_101, r_moveUp_102, r_moveUp_104, r_moveUp_106, r_moveUp_107, r_moveUp_108, r_moveUp_109, r_moveUp_110, r_moveUp_113, r_moveUp_114, r_moveUp_115, r_moveUp_118, nI_add, nI_leI (show n + 2 < 2 ^ 31 by omega) (show y < 2 ^ 31 by omega), rf_set_s]
        refine ⟨fun hyy => ?_, fun hyy => ?_⟩
        · have : y = n + 2 := by omega
          subst this
          simp only [nI_clamp (show ι c < 2 ^ 31 by omega), vp_in_i (show ι c < 2 ^ 31 by omega), q4, true_and]
          have hI : muI T ι μ bs (k + 1) (cs ++ [c]) (μ1.1, rf_up (rf_set μ1.2 7 (mvf (μ1.2 7) to (bst bs k) (n + 2))) 1 (ι c) (nI (to + 2))) := by
            have s7 : rf_up (rf_set μ1.2 7 (mvf (μ1.2 7) to (bst bs k) (n + 2))) 1 (ι c) (nI (to + 2)) 7 = mvf (μ1.2 7) to (bst bs k) (n + 2) := by rw [rf_up_n (by decide), rf_set_s]
            have s1 : rf_up (rf_set μ1.2 7 (mvf (μ1.2 7) to (bst bs k) (n + 2))) 1 (ι c) (nI (to + 2)) 1 = upd (μ1.2 1) (ι c) (nI (to + 2)) := by rw [rf_up_s, rf_set_n (by decide)]
            refine ⟨by omega, CH_a2 (CH_s2 i1 (by decide)) (by decide), ?_, ?_, ?_, ?_, ?_, ?_, ?_⟩
            · refine List.nodup_append.mpr ⟨i2, by simp, fun x hx z hz => ?_⟩
              cases List.mem_singleton.mp hz
              exact fun e => hcno (e ▸ hx)
            · intro x hx
              rcases List.mem_append.mp hx with hx | hx
              · obtain ⟨t', k', hk', hA'⟩ := i3 x hx
                exact ⟨t', k', by omega, hA'⟩
              · cases List.mem_singleton.mp hx; exact ⟨t, k, by omega, hA⟩
            · rw [hto2]; omega
            · rw [hto2, hblk]
              show BK (rf_up (rf_set μ1.2 7 (mvf (μ1.2 7) to (bst bs k) (n + 2))) 1 (ι c) (nI (to + 2)) 7) _ _ _
              rw [s7]
              refine BK_push _ 0 to i5 (fun j hj => mvf_lt hj) ?_ ?_ q4 q5
              · exact Eq.trans (show mvf (μ1.2 7) to (bst bs k) (n + 2) to = μ1.2 7 (bst bs k) from mvf_in (j := 0) (by omega)) q2'
              · rw [mvf_in (by omega)]; exact q3'
            · intro j hj
              show rf_up (rf_set μ1.2 7 (mvf (μ1.2 7) to (bst bs k) (n + 2))) 1 (ι c) (nI (to + 2)) 7 j = _
              rw [s7, mvf_ge (by omega), i6 j (by omega)]
            · intro c' t' k' hA'
              show (k' < k + 1 → ∃ j, (cs ++ [c])[j]? = some c' ∧ rf_up (rf_set μ1.2 7 (mvf (μ1.2 7) to (bst bs k) (n + 2))) 1 (ι c) (nI (to + 2)) 1 (ι c') = nI (bst (blk T ι (cs ++ [c])) j + 2) ∧ ∀ p x, t'[p]? = some x → rf_up (rf_set μ1.2 7 (mvf (μ1.2 7) to (bst bs k) (n + 2))) 1 (ι c) (nI (to + 2)) 7 (bst (blk T ι (cs ++ [c])) j + 2 + p) = x) ∧ (k + 1 ≤ k' → rf_up (rf_set μ1.2 7 (mvf (μ1.2 7) to (bst bs k) (n + 2))) 1 (ι c) (nI (to + 2)) 1 (ι c') = μ.2 1 (ι c'))
              rw [s7, s1]
              by_cases hcc : c' = c
              · subst hcc
                obtain ⟨hkk, htt⟩ := muA_u b1 a9 hA' hA
                subst hkk; subst htt
                refine ⟨fun _ => ⟨cs.length, by simp, ?_, fun p x hp => ?_⟩, fun hz => by omega⟩
                · rw [pk_us, hblk, bst_app _ _ _ (by omega), hgto]
                · have hpl := (List.getElem?_eq_some_iff.mp hp).1
                  rw [hblk, bst_app _ _ _ (by omega), hgto, Nat.add_assoc, mvf_in (by omega), i6 _ (by omega), ← Nat.add_assoc]
                  exact hA'.2.2.2 p x hp
              · have hne : ι c' ≠ ι c := fun z => hcc (a2 c' c (by rw [hA'.1]; exact fun z => by cases z) hcn z)
                rw [pk_un hne]
                refine ⟨fun hk' => ?_, fun hk' => (i7 c' t' k' hA').2 (by omega)⟩
                have hk2 : k' ≠ k := fun z => by
                  subst z
                  exact hne (noA c' t' hA').1.symm
                obtain ⟨j, j1, j2, j3⟩ := (i7 c' t' k' hA').1 (by omega)
                have hjl := (List.getElem?_eq_some_iff.mp j1).1
                have hat := BK_at _ 0 _ j (ι c', t'.length) i5 (by simp only [blk, List.getElem?_map, j1, Option.map_some, lfT, hA'.1])
                rw [Nat.zero_add] at hat
                dsimp only at hat
                refine ⟨j, by rw [List.getElem?_append_left hjl]; exact j1, by rw [hblk, bst_app _ _ _ (by omega)]; exact j2, fun p x hp => ?_⟩
                have hpl := (List.getElem?_eq_some_iff.mp hp).1
                rw [hblk, bst_app _ _ _ (by omega), mvf_lt (by omega)]
                exact j3 p x hp
            · intro j hj hjk
              show rf_up (rf_set μ1.2 7 (mvf (μ1.2 7) to (bst bs k) (n + 2))) 1 (ι c) (nI (to + 2)) 1 j = _
              rw [s1, pk_un (fun z => by subst z; exact hjk hk)]
              exact i8 j hj hjk
          have hh := step (cs ++ [c]) _ (some (.inl (nI (n + 2)))) hI
          rw [hto2] at hh
          rw [show to + (n + 2) = to + 2 + n by omega]
          exact hh
        · simp only [nI_clamp (show bst bs k + y < 2 ^ 31 by omega), vp_in_i (show bst bs k + y < 2 ^ 31 by omega), nI_clamp (show to + y < 2 ^ 31 by omega), vp_in_i (show to + y < 2 ^ 31 by omega)]
          refine ⟨by omega, by omega, ?_⟩
          have hh := ih2 (y + 1) (by omega) (by omega)
          rw [rf_up_set, rf_set_s, mvf_step _ i4, rf_set_set]
          exact hh
      have hh := inner 0 (by omega)
      rw [mvf_0] at hh
      have e7 : (μ1.1, rf_set μ1.2 7 (μ1.2 7)) = μ1 := by
        refine Prod.ext rfl ?_
        funext j
        show rf_set μ1.2 7 (μ1.2 7) j = _
        by_cases hj : j = 7
        · subst hj; rw [rf_set_s]
        · rw [rf_set_n hj]
      rw [e7] at hh
      exact hh
  simp only [r_moveUp_0, r_moveUp_1, r_moveUp_2, r_moveUp_3, r_moveUp_5, r_moveUp_6, r_moveUp_9, r_moveUp_12, r_moveUp_13, r_moveUp_16, r_moveUp_17, r_moveUp_18, r_moveUp_19, r_moveUp_20, r_moveUp_23, r_moveUp_24, r_moveUp_25, r_moveUp_26, r_moveUp_27, r_moveUp_29, r_moveUp_30, r_moveUp_33, r_moveUp_34, r_moveUp_35, r_moveUp_36, r_moveUp_39, r_moveUp_40, r_moveUp_43, r_moveUp_44, r_moveUp_45, r_moveUp_46, r_moveUp_47, r_moveUp_48, r_moveUp_51, r_moveUp_52, r_moveUp_56, r_moveUp_58, r_moveUp_59, r_moveUp_60, r_moveUp_63, r_moveUp_64, r_moveUp_67, r_moveUp_68, r_moveUp_70, r_moveUp_71, r_moveUp_72, r_moveUp_75, r_moveUp_76, r_moveUp_78, r_moveUp_79, r_moveUp_80, r_moveUp_81, r_moveUp_84, r_moveUp_87, r_moveUp_88, r_moveUp_91, r_moveUp_92, r_moveUp_93, r_moveUp_94, r_moveUp_95, r_moveUp_96, r_moveUp_97, r_moveUp_99, r_moveUp_100, r_moveUp_101, r_moveUp_102, r_moveUp_104, r_moveUp_106, r_moveUp_107, r_moveUp_108, r_moveUp_109, r_moveUp_110, r_moveUp_113, r_moveUp_114, r_moveUp_115, r_moveUp_118]
  have hh := key (0, [], μ, none, none, none) ⟨Nat.zero_le _, CH_rf _ _, List.nodup_nil, fun c hc => by simp at hc, Nat.zero_le _, rfl, fun j _ => rfl, fun c t k hA => ⟨fun hk => absurd hk (by omega), fun _ => rfl⟩, fun j _ _ => rfl⟩
  have e0 : bst bs 0 = 0 := by cases bs <;> rfl
  dsimp only at hh
  rw [e0] at hh
  exact hh
