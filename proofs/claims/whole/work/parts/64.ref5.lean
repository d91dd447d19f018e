theorem CH_newc (μ : rf_M) (c : Nat) (w a b n : Int32) : CH [0, 1, 2, 3, 5, 6] μ (newc μ c w a b n) := CH_i2 (CH_i2 (CH_a2 (CH_a2 (CH_a2 (CH_a2 (CH_rf _ μ) (by decide)) (by decide)) (by decide)) (by decide)) (by decide)) (by decide)
theorem tx_join13 {T : sT} {c : Nat} {q : Nat × Nat} (h : T c = some (.inr (.inl q))) : tx T 13 c = tx T 12 q.1 ++ tx T 12 q.2 := tx_join h
theorem k_newJoin {T : sT} {ι : Nat → Nat} {μ : rf_M} {B sp e : Nat} (h : RR T ι μ B sp e) (hsp : 1 ≤ sp) {a b : Nat} (ha : wf T 12 a) (hb : wf T 12 b) (ha0 : tx T 12 a ≠ []) (hb0 : tx T 12 b ≠ []) (hl : (tx T 12 a).length + (tx T 12 b).length ≤ 120) :
    P_newJoin [.inr (some 39), .inl (nI (ι a)), .inl (nI (ι b))] μ 0 0 (mI (fun r μ' => ∃ i, r = nI i ∧ i < 20480 ∧ CH [0, 1, 2, 3, 5, 6] μ μ' ∧ RR (va_up T B (some (.inr (.inl (a, b))))) (va_up ι B i) μ' (B + 1) (sp - 1) e)) := by
  have hTB : T B = none := h.2.2.2.1 B (Nat.le_refl _)
  have nn : ∀ x, wf T 12 x → T x ≠ none := fun x hx z => by simp [wf, z] at hx
  have hna := nn a ha
  have hnb := nn b hb
  obtain ⟨va, hva⟩ := Option.ne_none_iff_exists'.mp hna
  obtain ⟨vb, hvb⟩ := Option.ne_none_iff_exists'.mp hnb
  obtain ⟨ga, -, sa⟩ := h.1 a va hva
  obtain ⟨gb, -, sb⟩ := h.1 b vb hvb
  rw [(wf_up 12 a ha).2.1] at sa
  rw [(wf_up 12 b hb).2.1] at sb
  obtain ⟨la, h6, hla⟩ := h.2.2.2.2.1
  refine e_newJoin _ _ μ _ ?_
  simp only [r_newJoin_0, r_newJoin_1, r_newJoin_2, r_newJoin_3, r_newJoin_4, r_newJoin_5, r_newJoin_8, r_newJoin_9, r_newJoin_10, r_newJoin_11, r_newJoin_14, r_newJoin_15, r_newJoin_16, r_newJoin_17, r_newJoin_20, nI_clamp (show ι a < 2 ^ 31 by omega), vp_in_i (show ι a < 2 ^ 31 by omega), nI_clamp (show ι b < 2 ^ 31 by omega), vp_in_i (show ι b < 2 ^ 31 by omega), ga, gb, true_and, sa, sb, nI_add]
  refine ⟨_, k_newCell μ _ _ _ _ la h6 hla (by rw [← h.2.2.2.2.2.2.1]; omega), ?_⟩
  rintro r s' ⟨i, hi, hf, rfl, rfl⟩
  rw [mI_e]
  have hext := ext_up hTB (.inr (.inl (a, b)))
  have hnewB : va_up T B (some (.inr (.inl (a, b)))) B = some (.inr (.inl (a, b))) := va_up_self _ _ _
  obtain ⟨a1, a2, -⟩ := ext_wf hext 12 a ha
  obtain ⟨b1, b2, -⟩ := ext_wf hext 12 b hb
  refine ⟨i, rfl, hi, CH_newc _ _ _ _ _ _, RR_new h hi hf (fun t z => by cases z) (by decide) ?_ ?_ ?_ (fun _ _ => trivial) ?_⟩
  · show (newc μ i _ _ _ _).2 0 (va_up ι B i B) = _ ∧ (newc μ i _ _ _ _).2 1 (va_up ι B i B) = nI (va_up ι B i a) ∧ (newc μ i _ _ _ _).2 2 (va_up ι B i B) = nI (va_up ι B i b)
    rw [va_up_self, va_up_ne _ _ (fun z => hna (by rw [z]; exact hTB)), va_up_ne _ _ (fun z => hnb (by rw [z]; exact hTB))]
    simp [newc, rf_up, upd]
  · exact (wf_join hnewB).mpr ⟨a1, b1, by rw [a2]; exact ha0, by rw [b2]; exact hb0, by rw [a2, b2]; exact hl⟩
  · rw [tx_join13 hnewB, List.length_append, a2, b2]
  · intro q hq
    rcases hq with ⟨r, h | h⟩ | ⟨f, h⟩
    · cases h; exact hna
    · cases h; exact hnb
    · cases h
/-- a new slice -/
theorem k_newSlice {T : sT} {ι : Nat → Nat} {μ : rf_M} {B sp e : Nat} (h : RR T ι μ B sp e) (hsp : 1 ≤ sp) {q : Nat × Nat × Nat} (hq : oks T q) :
    P_newCell [.inr (some 39), .inl (nI 3), .inl (nI (ι q.1)), .inl (nI q.2.1), .inl (nI q.2.2)] μ 0 0 (mI (fun r μ' => ∃ i, r = nI i ∧ i < 20480 ∧ CH [0, 1, 2, 3, 5, 6] μ μ' ∧ RR (va_up T B (some (.inr (.inr q)))) (va_up ι B i) μ' (B + 1) (sp - 1) e)) := by
  have hTB : T B = none := h.2.2.2.1 B (Nat.le_refl _)
  obtain ⟨la, h6, hla⟩ := h.2.2.2.2.1
  obtain ⟨t, q1, q2⟩ := id hq
  have hnq : T q.1 ≠ none := by rw [q1]; exact fun z => by cases z
  have hc := k_newCell μ (nI 3) (nI (ι q.1)) (nI q.2.1) (nI q.2.2) la h6 hla (by rw [← h.2.2.2.2.2.2.1]; omega)
  refine ⟨hc.1, hc.2.1, ?_⟩
  have hext := ext_up hTB (.inr (.inr q))
  have hnewB : va_up T B (some (.inr (.inr q))) B = some (.inr (.inr q)) := va_up_self _ _ _
  obtain ⟨q3, q4⟩ := ext_oks hext hq
  refine mm_ret (fun r s' hr => ?_) hc.2.2
  obtain ⟨v, rfl, i, hi, hf, rfl, rfl⟩ := hr
  refine ⟨_, rfl, i, rfl, hi, CH_newc _ _ _ _ _ _, RR_new h hi hf (fun t z => by cases z) (by decide) ?_ ?_ ?_ (fun _ _ => trivial) ?_⟩
  · show (newc μ i _ _ _ _).2 0 (va_up ι B i B) = _ ∧ (newc μ i _ _ _ _).2 1 (va_up ι B i B) = nI (va_up ι B i q.1) ∧ (newc μ i _ _ _ _).2 2 (va_up ι B i B) = _
    rw [va_up_self, va_up_ne _ _ (fun z => hnq (by rw [z]; exact hTB))]
    simp [newc, rf_up, upd]
  · exact (wf_slice hnewB).mpr q3
  · rw [tx_slice hnewB, oks_len q3]
  · intro p hp
    rcases hp with ⟨r, h | h⟩ | ⟨f, h⟩
    · cases h
    · cases h
    · cases h; exact hnq
theorem ktx_lt {f : Nat → Int32} {e : Nat} {cell : Int32} {n : Nat} {t : Nat → Int32} {k j : Nat} (h : j < e) : ktx f e cell n t k j = f j := by
  simp only [ktx]
  rw [if_neg (by omega), if_neg (by omega), if_neg (by omega)]
theorem ktx_e {f : Nat → Int32} {e : Nat} {cell : Int32} {n : Nat} {t : Nat → Int32} {k : Nat} : ktx f e cell n t k e = cell ∧ ktx f e cell n t k (e + 1) = nI n := by
  refine ⟨by unfold ktx; rw [if_pos rfl], by unfold ktx; rw [if_neg (by omega), if_pos rfl]⟩
theorem ktx_in {f : Nat → Int32} {e : Nat} {cell : Int32} {n : Nat} {t : Nat → Int32} {k j : Nat} (h : j < k) : ktx f e cell n t k (e + 2 + j) = t j := by
  simp only [ktx]
  rw [if_neg (by omega), if_neg (by omega), if_pos (by omega)]
  congr 1
  omega
/-- a leaf's text is kept, its cell says where: a store with a leaf more -/
theorem RR_leaf {T : sT} {ι : Nat → Nat} {μ μ' : rf_M} {B sp e : Nat} (h : RR T ι μ B sp e) {i : Nat} (hi : i < 20480) (hf : μ.2 0 i = 0) {L : List Int32} (hL : okt L) (he : e + 2 + L.length ≤ 81920)
    (m0 : μ'.2 0 = upd (μ.2 0) i (nI 1)) (m1 : μ'.2 1 = upd (upd (μ.2 1) i 0) i (nI (e + 2)) ∨ μ'.2 1 = upd (μ.2 1) i (nI (e + 2))) (m2 : ∀ j, j ≠ i → μ'.2 2 j = μ.2 2 j) (m3 : μ'.2 3 = upd (μ.2 3) i (nI L.length)) (m5 : μ'.1 5 = nI (sp - 1)) (m6 : μ'.1 6 = nI i) (m8 : μ'.1 8 = nI (e + 2 + L.length)) (m7 : ∀ j, j < e → μ'.2 7 j = μ.2 7 j) (m7a : μ'.2 7 e = nI i ∧ μ'.2 7 (e + 1) = nI L.length) (m7b : ∀ j x, L[j]? = some x → μ'.2 7 (e + 2 + j) = x) : RR (va_up T B (some (.inl L))) (va_up ι B i) μ' (B + 1) (sp - 1) (e + 2 + L.length) := by
  obtain ⟨a1, a2, a3, a4, a5, a6, a7, a8, a9, bs, b1, b2⟩ := h
  have hTB : T B = none := a4 B (Nat.le_refl _)
  have hext := ext_up hTB (.inl L)
  have hne : ∀ c, T c ≠ none → c ≠ B := fun c hc z => hc (by rw [z]; exact hTB)
  have hnb : ∀ c, T c ≠ none → ι c ≠ i := fun c hc z => RK_busy a1 hc (by rw [z]; exact hf)
  have e0 : ∀ j, j ≠ i → μ'.2 0 j = μ.2 0 j := fun j hj => by rw [m0, pk_un hj]
  have e1 : ∀ j, j ≠ i → μ'.2 1 j = μ.2 1 j := fun j hj => by
    rcases m1 with h | h
    · rw [h, pk_un hj, pk_un hj]
    · rw [h, pk_un hj]
  have e1i : μ'.2 1 i = nI (e + 2) := by
    rcases m1 with h | h
    · rw [h, pk_us]
    · rw [h, pk_us]
  have e3 : ∀ j, j ≠ i → μ'.2 3 j = μ.2 3 j := fun j hj => by rw [m3, pk_un hj]
  have hw0 : ¬ (nI 1 : Int32) = 0 := by decide
  have hsp : 0 < sp := by
    have := FZ_take hf hw0 20480 hi
    omega
  have hold : ∀ c u, T c = some u → wf T 13 c := fun c u hc => a3 c (by rw [hc]; exact fun z => by cases z)
  have chd : ∀ c u, T c = some u → ∀ q, (∃ r, u = .inr (.inl (q, r)) ∨ u = .inr (.inl (r, q))) ∨ (∃ f, u = .inr (.inr (q, f))) → T q ≠ none := by
    intro c u hc q hq
    have hw := hold c u hc
    rcases wf_cases hw with ⟨t, h1, -⟩ | ⟨p, h1, ⟨t, ht, -⟩⟩ | ⟨k, p, hk, h1, g1, g2, -⟩
    · rw [hc] at h1; cases h1
      rcases hq with ⟨r, h | h⟩ | ⟨f, h⟩ <;> cases h
    · rw [hc] at h1; cases h1
      rcases hq with ⟨r, h | h⟩ | ⟨f, h⟩
      · cases h
      · cases h
      · cases h; rw [ht]; exact fun z => by cases z
    · rw [hc] at h1; cases h1
      have nn : ∀ m x, wf T m x → T x ≠ none := fun m x hx z => by cases m <;> simp [wf, z] at hx
      rcases hq with ⟨r, h | h⟩ | ⟨f, h⟩
      · cases h; exact nn _ _ g1
      · cases h; exact nn _ _ g2
      · cases h
  have hnewB : va_up T B (some (.inl L)) B = some (.inl L) := va_up_self _ _ _
  have hbk : BK (μ'.2 7) 0 (bs ++ [(i, L.length)]) (e + 2 + L.length) := BK_push bs 0 e b1 m7 m7a.1 m7a.2 hi (by have := hL.1; omega)
  refine ⟨fun c u hc => ?_, fun x y hx hy hxy => ?_, fun c hc => ?_, fun c hc => ?_, ⟨i, m6, hi⟩, m5, ?_, m8, he, bs ++ [(i, L.length)], hbk, fun c t hc => ?_⟩
  · by_cases hcB : c = B
    · subst hcB
      rw [va_up_self] at hc
      cases hc
      refine ⟨by rw [va_up_self]; exact hi, ?_, ?_⟩
      · show μ'.2 0 (va_up ι c i c) = nI 1
        rw [va_up_self, m0, pk_us]
      · rw [va_up_self, m3, pk_us, tx_leaf hnewB]
    · rw [va_up_ne _ _ hcB] at hc
      have hcn : T c ≠ none := by rw [hc]; exact fun z => by cases z
      obtain ⟨g1, g2, g3⟩ := a1 c u hc
      have hi' : va_up ι B i c = ι c := va_up_ne _ _ hcB
      have hni := hnb c hcn
      refine ⟨by rw [hi']; exact g1, ?_, ?_⟩
      · rcases u with t | q | q
        · show μ'.2 0 (va_up ι B i c) = _
          rw [hi', e0 _ hni]; exact g2
        · show μ'.2 0 (va_up ι B i c) = _ ∧ μ'.2 1 (va_up ι B i c) = nI (va_up ι B i q.1) ∧ μ'.2 2 (va_up ι B i c) = nI (va_up ι B i q.2)
          rw [hi', e0 _ hni, e1 _ hni, m2 _ hni, va_up_ne _ _ (hne q.1 (chd c _ hc q.1 (Or.inl ⟨q.2, Or.inl rfl⟩))), va_up_ne _ _ (hne q.2 (chd c _ hc q.2 (Or.inl ⟨q.1, Or.inr rfl⟩)))]
          exact g2
        · show μ'.2 0 (va_up ι B i c) = _ ∧ μ'.2 1 (va_up ι B i c) = nI (va_up ι B i q.1) ∧ μ'.2 2 (va_up ι B i c) = _
          rw [hi', e0 _ hni, e1 _ hni, m2 _ hni, va_up_ne _ _ (hne q.1 (chd c _ hc q.1 (Or.inr ⟨q.2, rfl⟩)))]
          exact g2
      · rw [hi', e3 _ hni, g3, (ext_wf hext 13 c (hold c u hc)).2.1]
  · by_cases hxB : x = B
    · by_cases hyB : y = B
      · rw [hxB, hyB]
      · rw [va_up_ne _ _ hyB] at hy
        rw [hxB, va_up_self, va_up_ne _ _ hyB] at hxy
        exact absurd hxy.symm (hnb y hy)
    · by_cases hyB : y = B
      · rw [va_up_ne _ _ hxB] at hx
        rw [hyB, va_up_self, va_up_ne _ _ hxB] at hxy
        exact absurd hxy (hnb x hx)
      · rw [va_up_ne _ _ hxB] at hx
        rw [va_up_ne _ _ hyB] at hy
        rw [va_up_ne _ _ hxB, va_up_ne _ _ hyB] at hxy
        exact a2 x y hx hy hxy
  · by_cases hcB : c = B
    · subst hcB; exact (wf_leaf hnewB).mpr hL
    · rw [va_up_ne _ _ hcB] at hc
      exact (ext_wf hext 13 c (a3 c hc)).1
  · rw [va_up_ne _ _ (by omega)]
    exact a4 c (by omega)
  · rw [m0]
    have := FZ_take hf hw0 20480 hi
    omega
  · by_cases hcB : c = B
    · subst hcB
      rw [va_up_self] at hc
      cases hc
      rw [va_up_self]
      have hbe := BK_end bs 0 e b1
      have hbs : bst (bs ++ [(i, L.length)]) bs.length = e := by
        rw [bst_app bs _ _ (Nat.le_refl _)]; omega
      refine ⟨bs.length, by simp, ?_, ?_⟩
      · rw [hbs]; exact e1i
      · rw [hbs]; exact m7b
    · rw [va_up_ne _ _ hcB] at hc
      have hcn : T c ≠ none := by rw [hc]; exact fun z => by cases z
      obtain ⟨k, k1, k2, k3⟩ := b2 c t hc
      have hkl := (List.getElem?_eq_some_iff.mp k1).1
      have hat := BK_at bs 0 e k _ b1 k1
      dsimp only at hat
      refine ⟨k, by rw [List.getElem?_append_left hkl, va_up_ne _ _ hcB]; exact k1, ?_, ?_⟩
      · rw [va_up_ne _ _ hcB, bst_app bs _ _ (by omega), e1 _ (hnb c hcn)]; exact k2
      · intro j x hj
        have hjl := (List.getElem?_eq_some_iff.mp hj).1
        rw [bst_app bs _ _ (by omega), m7 _ (by omega)]
        exact k3 j x hj
theorem k_newLeaf {T : sT} {ι : Nat → Nat} {μ : rf_M} {B sp e : Nat} (h : RR T ι μ B sp e) (hsp : 1 ≤ sp) {L : List Int32} (hL : okt L) (hap : AP (μ.2 21) L) (he : e + 2 + L.length ≤ 81920) :
    P_newLeaf [.inr (some 39), .inl (nI L.length)] μ 0 0 (mI (fun r μ' => ∃ i, r = nI i ∧ i < 20480 ∧ CH [0, 1, 2, 3, 5, 6, 7, 8] μ μ' ∧ RR (va_up T B (some (.inl L))) (va_up ι B i) μ' (B + 1) (sp - 1) (e + 2 + L.length))) := by
  obtain ⟨la, h6, hla⟩ := h.2.2.2.2.1
  have h5 := h.2.2.2.2.2.1
  have h8 := h.2.2.2.2.2.2.2.1
  refine e_newLeaf _ μ _ ?_
  simp only [r_newLeaf_0, r_newLeaf_1, r_newLeaf_2, r_newLeaf_3, r_newLeaf_4, r_newLeaf_5, r_newLeaf_8, r_newLeaf_9, r_newLeaf_10, r_newLeaf_13, r_newLeaf_14, r_newLeaf_15, r_newLeaf_16, r_newLeaf_17, r_newLeaf_20, r_newLeaf_21, r_newLeaf_22]
  refine ⟨_, k_newCell μ _ _ _ _ la h6 hla (by rw [← h.2.2.2.2.2.2.1]; omega), ?_⟩
  rintro r s' ⟨i, hi, hf, rfl, rfl⟩
  have g8 : (newc μ i (nI 1) (nI 0) (nI 0) (nI L.length)).1 8 = nI e := by
    show upd (upd μ.1 6 (nI i)) 5 (μ.1 5 - nI 1) 8 = _
    rw [pk_un (by decide), pk_un (by decide)]; exact h8
  refine ⟨_, k_keepText _ (nI i) L.length e g8 (by have := hL.1; omega) he, ?_⟩
  rintro r s' ⟨rfl, rfl⟩
  simp only [nI_clamp (show i < 2 ^ 31 by omega), vp_in_i (show i < 2 ^ 31 by omega), mI_e]
  refine ⟨hi, i, rfl, hi, ?_, ?_⟩
  · exact CH_a2 (CH_i2 (CH_s2 (CH_w (CH_newc μ i (nI 1) (nI 0) (nI 0) (nI L.length)) (by decide)) (by decide)) (by decide)) (by decide)
  · refine RR_leaf h hi hf hL he ?_ ?_ ?_ ?_ ?_ ?_ ?_ ?_ ?_ ?_
    · simp [keptT, rf_set, rf_up, newc]
    · refine Or.inl ?_
      simp [keptT, rf_set, rf_up, newc, nI_0]
    · intro j hj
      simp [keptT, rf_set, rf_up, newc, upd, hj]
    · simp [keptT, rf_set, rf_up, newc]
    · show upd (upd (upd μ.1 6 (nI i)) 5 (μ.1 5 - nI 1)) 8 (nI (e + 2 + L.length)) 5 = _
      rw [pk_un (by decide), pk_us, h5, pk_sub hsp]
    · show upd (upd (upd μ.1 6 (nI i)) 5 (μ.1 5 - nI 1)) 8 (nI (e + 2 + L.length)) 6 = _
      rw [pk_un (by decide), pk_un (by decide), pk_us]
    · show upd (upd (upd μ.1 6 (nI i)) 5 (μ.1 5 - nI 1)) 8 (nI (e + 2 + L.length)) 8 = _
      rw [pk_us]
    · intro j hj
      show ktx ((newc μ i (nI 1) (nI 0) (nI 0) (nI L.length)).2 7) e (nI i) L.length ((newc μ i (nI 1) (nI 0) (nI 0) (nI L.length)).2 21) L.length j = _
      rw [ktx_lt hj]
      simp [newc, rf_up]
    · have := ktx_e (f := (newc μ i (nI 1) (nI 0) (nI 0) (nI L.length)).2 7) (e := e) (cell := nI i) (n := L.length) (t := (newc μ i (nI 1) (nI 0) (nI 0) (nI L.length)).2 21) (k := L.length)
      exact this
    · intro j x hj
      have hjl := (List.getElem?_eq_some_iff.mp hj).1
      show ktx ((newc μ i (nI 1) (nI 0) (nI 0) (nI L.length)).2 7) e (nI i) L.length ((newc μ i (nI 1) (nI 0) (nI 0) (nI L.length)).2 21) L.length (e + 2 + j) = _
      rw [ktx_in hjl]
      have : (newc μ i (nI 1) (nI 0) (nI 0) (nI L.length)).2 21 = μ.2 21 := by simp [newc, rf_up]
      rw [this]
      exact hap j x hj
