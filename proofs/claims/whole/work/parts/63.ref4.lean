/-! ===== the reference: its store, with room ===== -/
def BK (f : Nat → Int32) : Nat → List (Nat × Nat) → Nat → Prop
  | a, [], e => a = e
  | a, q :: r, e => f a = nI q.1 ∧ q.1 < 20480 ∧ f (a + 1) = nI q.2 ∧ q.2 ≤ 240 ∧ BK f (a + 2 + q.2) r e
def bst : List (Nat × Nat) → Nat → Nat
  | _, 0 => 0
  | [], _ + 1 => 0
  | q :: r, i + 1 => 2 + q.2 + bst r i
theorem BK_le {f : Nat → Int32} : ∀ (bs : List (Nat × Nat)) (a e : Nat), BK f a bs e → a ≤ e
  | [], a, e, h => Nat.le_of_eq h
  | q :: r, a, e, h => by have := BK_le r _ _ h.2.2.2.2; omega
theorem BK_at {f : Nat → Int32} : ∀ (bs : List (Nat × Nat)) (a e i : Nat) (q : Nat × Nat), BK f a bs e → bs[i]? = some q → a + bst bs i + 2 + q.2 ≤ e ∧ f (a + bst bs i) = nI q.1 ∧ f (a + bst bs i + 1) = nI q.2 ∧ q.1 < 20480 ∧ q.2 ≤ 240
  | [], _, _, i, _, _, hi => by simp at hi
  | p :: r, a, e, 0, q, h, hi => by
    cases hi
    exact ⟨BK_le r _ _ h.2.2.2.2, h.1, h.2.2.1, h.2.1, h.2.2.2.1⟩
  | p :: r, a, e, i + 1, q, h, hi => by
    have := BK_at r _ e i q h.2.2.2.2 (by simpa using hi)
    have e1 : a + 2 + p.2 + bst r i = a + bst (p :: r) (i + 1) := by simp only [bst]; omega
    rw [e1] at this
    exact this
theorem BK_push {f g : Nat → Int32} {j n : Nat} : ∀ (bs : List (Nat × Nat)) (a e : Nat), BK f a bs e → (∀ k, k < e → g k = f k) → g e = nI j → g (e + 1) = nI n → j < 20480 → n ≤ 240 → BK g a (bs ++ [(j, n)]) (e + 2 + n)
  | [], a, e, h, hg, h1, h2, h3, h4 => by cases h; exact ⟨h1, h3, h2, h4, rfl⟩
  | q :: r, a, e, h, hg, h1, h2, h3, h4 => by
    obtain ⟨a1, a2, a3, a4, a5⟩ := h
    have := BK_le r _ _ a5
    exact ⟨by rw [hg a (by omega)]; exact a1, a2, by rw [hg (a + 1) (by omega)]; exact a3, a4, BK_push r _ e a5 hg h1 h2 h3 h4⟩
theorem bst_app : ∀ (bs b2 : List (Nat × Nat)) (i : Nat), i ≤ bs.length → bst (bs ++ b2) i = bst bs i
  | bs, b2, 0, _ => by cases bs <;> cases b2 <;> rfl
  | [], _, i + 1, h => by simp at h
  | q :: r, b2, i + 1, h => by
    have := bst_app r b2 i (by simpa using h)
    simp only [List.cons_append, bst, this]
theorem BK_end {f : Nat → Int32} : ∀ (bs : List (Nat × Nat)) (a e : Nat), BK f a bs e → a + bst bs bs.length = e
  | [], a, e, h => by cases h; rfl
  | q :: r, a, e, h => by
    have := BK_end r _ e h.2.2.2.2
    simp only [List.length_cons, bst]
    omega
def RB (T : sT) (ι : Nat → Nat) (μ : rf_M) (bs : List (Nat × Nat)) : Prop := ∀ c t, T c = some (.inl t) → ∃ i, bs[i]? = some (ι c, t.length) ∧ μ.2 1 (ι c) = nI (bst bs i + 2) ∧ ∀ j x, t[j]? = some x → μ.2 7 (bst bs i + 2 + j) = x
/-- the reference's cells hold the store T, by the map ι; B is above all its cells; sp cells are free, the row of signs ends at e -/
def RR (T : sT) (ι : Nat → Nat) (μ : rf_M) (B sp e : Nat) : Prop :=
  RK T ι μ ∧ (∀ a b, T a ≠ none → T b ≠ none → ι a = ι b → a = b) ∧ (∀ c, T c ≠ none → wf T 13 c) ∧ (∀ c, B ≤ c → T c = none) ∧ (∃ la, μ.1 6 = nI la ∧ la < 20480) ∧ μ.1 5 = nI sp ∧ sp = FZ (μ.2 0) 20480 ∧ μ.1 8 = nI e ∧ e ≤ 81920 ∧ ∃ bs, BK (μ.2 7) 0 bs e ∧ RB T ι μ bs
theorem RR.x {T : sT} {ι : Nat → Nat} {μ : rf_M} {B sp e : Nat} (h : RR T ι μ B sp e) : RX T ι μ := by
  obtain ⟨-, -, -, -, -, -, -, -, he, bs, hb, hr⟩ := h
  intro c t hc
  obtain ⟨i, h1, h2, h3⟩ := hr c t hc
  have := (BK_at bs 0 e i _ hb h1).1
  dsimp only at this
  exact ⟨_, h2, by omega, h3⟩
theorem RR_ch {T : sT} {ι : Nat → Nat} {μ μ' : rf_M} {B sp e : Nat} {l : List Nat} (h : RR T ι μ B sp e) (hc : CH l μ μ') (hl : ∀ k ∈ [0, 1, 2, 3, 5, 6, 7, 8], k ∉ l) : RR T ι μ' B sp e := by
  obtain ⟨a1, a2, a3, a4, a5, a6, a7, a8, a9, bs, b1, b2⟩ := h
  have g := fun k hk => hc k (hl k hk)
  refine ⟨RK_keep a1 (g 0 (by decide)).2 (g 1 (by decide)).2 (g 2 (by decide)).2 (g 3 (by decide)).2, a2, a3, a4, ?_, ?_, ?_, ?_, a9, bs, ?_, ?_⟩
  · rw [(g 6 (by decide)).1]; exact a5
  · rw [(g 5 (by decide)).1]; exact a6
  · rw [(g 0 (by decide)).2]; exact a7
  · rw [(g 8 (by decide)).1]; exact a8
  · rw [(g 7 (by decide)).2]; exact b1
  · intro c t ht
    rw [(g 1 (by decide)).2, (g 7 (by decide)).2]
    exact b2 c t ht
/-- fewer cells -/
theorem RR_sub {T T2 : sT} {ι : Nat → Nat} {μ : rf_M} {B sp e : Nat} (h : RR T ι μ B sp e) (hs : ∀ c v, T2 c = some v → T c = some v) (hw : ∀ c, T2 c ≠ none → wf T2 13 c) : RR T2 ι μ B sp e := by
  obtain ⟨a1, a2, a3, a4, a5, a6, a7, a8, a9, bs, b1, b2⟩ := h
  have hn : ∀ c, T2 c ≠ none → T c ≠ none := fun c hc => by
    cases hv : T2 c with
    | none => exact absurd hv hc
    | some v => rw [hs c v hv]; exact fun z => by cases z
  refine ⟨fun c v hc => ?_, fun a b ha hb => a2 a b (hn a ha) (hn b hb), hw, fun c hc => ?_, a5, a6, a7, a8, a9, bs, b1, fun c t hc => b2 c t (hs c _ hc)⟩
  · obtain ⟨g1, g2, g3⟩ := a1 c v (hs c v hc)
    refine ⟨g1, g2, ?_⟩
    rw [g3, (ext_wf hs 13 c (hw c (by rw [hc]; exact fun z => by cases z))).2.1]
  · cases hv : T2 c with
    | none => rfl
    | some v => have := hs c v hv; rw [a4 c hc] at this; cases this
/-- which cells a row of the reference holds are not free -/
theorem RK_busy {T : sT} {ι : Nat → Nat} {μ : rf_M} (h : RK T ι μ) {c : Nat} (hc : T c ≠ none) : ¬ μ.2 0 (ι c) = 0 := by
  cases hv : T c with
  | none => exact absurd hv hc
  | some v =>
    obtain ⟨-, h2, -⟩ := h c v hv
    rcases v with t | q | q
    · have h2 : μ.2 0 (ι c) = nI 1 := h2
      rw [h2]; decide
    · rw [h2.1]; decide
    · rw [h2.1]; decide
theorem ext_up {T : sT} {B : Nat} (hB : T B = none) (v : cV) : ∀ c w, T c = some w → va_up T B (some v) c = some w := fun c w hc => by
  rw [va_up_ne _ _ (fun z => by subst z; rw [hB] at hc; cases hc)]; exact hc
/-- a new cell that isn't a leaf: the store with one more -/
theorem RR_new {T : sT} {ι : Nat → Nat} {μ : rf_M} {B sp e : Nat} (h : RR T ι μ B sp e) {i : Nat} (hi : i < 20480) (hf : μ.2 0 i = 0) {v : cV} (hv : ∀ t, v ≠ .inl t) {w a b n : Int32} (hw0 : ¬ w = 0) (hck : rck (va_up ι B i) (newc μ i w a b n) B v) (hwf : wf (va_up T B (some v)) 13 B) (hn : n = nI (tx (va_up T B (some v)) 13 B).length)
    (hch : ∀ q, v = .inr (.inl q) ∨ (∃ f, v = .inr (.inr (q.1, f))) → True) (hin : ∀ q : Nat, (∃ r, v = .inr (.inl (q, r)) ∨ v = .inr (.inl (r, q))) ∨ (∃ f, v = .inr (.inr (q, f))) → T q ≠ none) : RR (va_up T B (some v)) (va_up ι B i) (newc μ i w a b n) (B + 1) (sp - 1) e := by
  obtain ⟨a1, a2, a3, a4, ⟨la, a5, a5'⟩, a6, a7, a8, a9, bs, b1, b2⟩ := h
  have hTB : T B = none := a4 B (Nat.le_refl _)
  have hext := ext_up hTB v
  have hne : ∀ c, T c ≠ none → c ≠ B := fun c hc z => hc (by rw [z]; exact hTB)
  have hnb : ∀ c, T c ≠ none → ι c ≠ i := fun c hc z => RK_busy a1 hc (by rw [z]; exact hf)
  have e0 : ∀ j, j ≠ i → (newc μ i w a b n).2 0 j = μ.2 0 j := fun j hj => by simp [newc, rf_up, upd, hj]
  have e1 : ∀ j, j ≠ i → (newc μ i w a b n).2 1 j = μ.2 1 j := fun j hj => by simp [newc, rf_up, upd, hj]
  have e2 : ∀ j, j ≠ i → (newc μ i w a b n).2 2 j = μ.2 2 j := fun j hj => by simp [newc, rf_up, upd, hj]
  have e3 : ∀ j, j ≠ i → (newc μ i w a b n).2 3 j = μ.2 3 j := fun j hj => by simp [newc, rf_up, upd, hj]
  have e7 : (newc μ i w a b n).2 7 = μ.2 7 := by simp [newc, rf_up]
  have e0i : (newc μ i w a b n).2 0 = upd (μ.2 0) i w := by simp [newc, rf_up]
  have hsp : 0 < sp := by
    have := FZ_take hf hw0 20480 hi
    omega
  have hold : ∀ c u, T c = some u → wf T 13 c := fun c u hc => a3 c (by rw [hc]; exact fun z => by cases z)
  have chd : ∀ c u, T c = some u → ∀ q, (∃ r, u = .inr (.inl (q, r)) ∨ u = .inr (.inl (r, q))) ∨ (∃ f, u = .inr (.inr (q, f))) → T q ≠ none := by
    intro c u hc q hq
    have hw := hold c u hc
    rcases wf_cases hw with ⟨t, h1, -⟩ | ⟨p, h1, ⟨t, ht, -⟩⟩ | ⟨k, p, hk, h1, g1, g2, -⟩
    · rw [hc] at h1; cases h1
      rcases hq with ⟨r, h | h⟩ | ⟨f, h⟩ <;> cases h
    · rw [hc] at h1; cases h1
      rcases hq with ⟨r, h | h⟩ | ⟨f, h⟩
      · cases h
      · cases h
      · cases h; rw [ht]; exact fun z => by cases z
    · rw [hc] at h1; cases h1
      have nn : ∀ m x, wf T m x → T x ≠ none := fun m x hx z => by cases m <;> simp [wf, z] at hx
      rcases hq with ⟨r, h | h⟩ | ⟨f, h⟩
      · cases h; exact nn _ _ g1
      · cases h; exact nn _ _ g2
      · cases h
  refine ⟨fun c u hc => ?_, fun x y hx hy hxy => ?_, fun c hc => ?_, fun c hc => ?_, ⟨i, by simp [newc, upd], hi⟩, ?_, ?_, ?_, a9, bs, by rw [e7]; exact b1, fun c t hc => ?_⟩
  · by_cases hcB : c = B
    · subst hcB
      rw [va_up_self] at hc
      cases hc
      refine ⟨by rw [va_up_self]; exact hi, hck, ?_⟩
      rw [va_up_self, ← hn]
      simp [newc, rf_up, upd]
    · rw [va_up_ne _ _ hcB] at hc
      have hcn : T c ≠ none := by rw [hc]; exact fun z => by cases z
      obtain ⟨g1, g2, g3⟩ := a1 c u hc
      have hi' : va_up ι B i c = ι c := va_up_ne _ _ hcB
      have hni := hnb c hcn
      refine ⟨by rw [hi']; exact g1, ?_, ?_⟩
      · rcases u with t | q | q
        · show (newc μ i w a b n).2 0 (va_up ι B i c) = _
          rw [hi', e0 _ hni]; exact g2
        · show (newc μ i w a b n).2 0 (va_up ι B i c) = _ ∧ (newc μ i w a b n).2 1 (va_up ι B i c) = nI (va_up ι B i q.1) ∧ (newc μ i w a b n).2 2 (va_up ι B i c) = nI (va_up ι B i q.2)
          rw [hi', e0 _ hni, e1 _ hni, e2 _ hni, va_up_ne _ _ (hne q.1 (chd c _ hc q.1 (Or.inl ⟨q.2, Or.inl rfl⟩))), va_up_ne _ _ (hne q.2 (chd c _ hc q.2 (Or.inl ⟨q.1, Or.inr rfl⟩)))]
          exact g2
        · show (newc μ i w a b n).2 0 (va_up ι B i c) = _ ∧ (newc μ i w a b n).2 1 (va_up ι B i c) = nI (va_up ι B i q.1) ∧ (newc μ i w a b n).2 2 (va_up ι B i c) = _
          rw [hi', e0 _ hni, e1 _ hni, e2 _ hni, va_up_ne _ _ (hne q.1 (chd c _ hc q.1 (Or.inr ⟨q.2, rfl⟩)))]
          exact g2
      · rw [hi', e3 _ hni, g3, (ext_wf hext 13 c (hold c u hc)).2.1]
  · by_cases hxB : x = B
    · by_cases hyB : y = B
      · rw [hxB, hyB]
      · rw [va_up_ne _ _ hyB] at hy
        rw [hxB, va_up_self, va_up_ne _ _ hyB] at hxy
        exact absurd hxy.symm (hnb y hy)
    · by_cases hyB : y = B
      · rw [va_up_ne _ _ hxB] at hx
        rw [hyB, va_up_self, va_up_ne _ _ hxB] at hxy
        exact absurd hxy (hnb x hx)
      · rw [va_up_ne _ _ hxB] at hx
        rw [va_up_ne _ _ hyB] at hy
        rw [va_up_ne _ _ hxB, va_up_ne _ _ hyB] at hxy
        exact a2 x y hx hy hxy
  · by_cases hcB : c = B
    · subst hcB; exact hwf
    · rw [va_up_ne _ _ hcB] at hc
      exact (ext_wf hext 13 c (a3 c hc)).1
  · rw [va_up_ne _ _ (by omega)]
    exact a4 c (by omega)
  · show upd (upd μ.1 6 (nI i)) 5 (μ.1 5 - nI 1) 5 = _
    rw [pk_us, a6, pk_sub (by omega)]
  · rw [e0i]
    have := FZ_take hf hw0 20480 hi
    omega
  · show upd (upd μ.1 6 (nI i)) 5 (μ.1 5 - nI 1) 8 = _
    rw [pk_un (by decide), pk_un (by decide)]; exact a8
  · by_cases hcB : c = B
    · subst hcB
      rw [va_up_self] at hc
      cases hc
      exact absurd rfl (hv t)
    · rw [va_up_ne _ _ hcB] at hc
      have hcn : T c ≠ none := by rw [hc]; exact fun z => by cases z
      obtain ⟨k, k1, k2, k3⟩ := b2 c t hc
      rw [va_up_ne _ _ hcB, e7, e1 _ (hnb c hcn)]
      exact ⟨k, k1, k2, k3⟩
