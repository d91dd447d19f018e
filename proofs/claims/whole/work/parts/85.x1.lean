/-! ===== the class: frames, texts, cells ===== -/
/-- what was there outside these is as it was -/
def XF (lo lg lr : List Nat) (σ σ' : xS) : Prop := (∀ k o, k ∉ lo → σ.1 k = some o → σ'.1 k = some o) ∧ (∀ k t, k ∉ lg → σ.2.1 k = some t → σ'.2.1 k = some t) ∧ (∀ k t, k ∉ lr → σ.2.2 k = some t → σ'.2.2 k = some t) ∧ (∀ k, k < 24 → σ.2.1 k = none → σ'.2.1 k = none)
theorem XF_rf (lo lg lr : List Nat) (σ : xS) : XF lo lg lr σ σ := ⟨fun _ _ _ h => h, fun _ _ _ h => h, fun _ _ _ h => h, fun _ _ h => h⟩
theorem XF_tr {lo lg lr lo' lg' lr' mo mg mr : List Nat} {σ σ1 σ2 : xS} (h : XF lo lg lr σ σ1) (h' : XF lo' lg' lr' σ1 σ2) (a1 : ∀ k ∈ lo, k ∈ mo) (a2 : ∀ k ∈ lo', k ∈ mo) (b1 : ∀ k ∈ lg, k ∈ mg) (b2 : ∀ k ∈ lg', k ∈ mg) (c1 : ∀ k ∈ lr, k ∈ mr) (c2 : ∀ k ∈ lr', k ∈ mr) : XF mo mg mr σ σ2 :=
  ⟨fun k o hk ho => h'.1 k o (fun z => hk (a2 k z)) (h.1 k o (fun z => hk (a1 k z)) ho), fun k o hk ho => h'.2.1 k o (fun z => hk (b2 k z)) (h.2.1 k o (fun z => hk (b1 k z)) ho), fun k o hk ho => h'.2.2.1 k o (fun z => hk (c2 k z)) (h.2.2.1 k o (fun z => hk (c1 k z)) ho), fun k hk h0 => h'.2.2.2 k hk (h.2.2.2 k hk h0)⟩
theorem XF_w {lo lg lr mo mg mr : List Nat} {σ σ1 : xS} (h : XF lo lg lr σ σ1) (a1 : ∀ k ∈ lo, k ∈ mo) (b1 : ∀ k ∈ lg, k ∈ mg) (c1 : ∀ k ∈ lr, k ∈ mr) : XF mo mg mr σ σ1 :=
  ⟨fun k o hk ho => h.1 k o (fun z => hk (a1 k z)) ho, fun k o hk ho => h.2.1 k o (fun z => hk (b1 k z)) ho, fun k o hk ho => h.2.2.1 k o (fun z => hk (c1 k z)) ho, h.2.2.2⟩
theorem XF_same {lo lg lr : List Nat} {σ σ1 : xS} (h1 : XF lo lg lr σ σ1) {σ2 : xS} (h2 : XF lo lg lr σ1 σ2) : XF lo lg lr σ σ2 := XF_tr h1 h2 (fun _ z => z) (fun _ z => z) (fun _ z => z) (fun _ z => z) (fun _ z => z) (fun _ z => z)
theorem XF_o {lo lg lr : List Nat} {σ : xS} {A : Nat → Option xO} {Z : (Nat → Option (Nat × (Nat → Int32))) × (Nat → Option (Nat × (Nat → Option Nat)))} {k : Nat} {v : Option xO} (h : XF lo lg lr σ (A, Z)) (hk : k ∈ lo ∨ σ.1 k = none) : XF lo lg lr σ (va_up A k v, Z) := ⟨fun j o hj ho => by
    have hne : j ≠ k := fun z => by
      subst z
      rcases hk with hk | hk
      · exact hj hk
      · rw [hk] at ho; cases ho
    show va_up A k v j = _
    rw [va_up_ne _ _ hne]
    exact h.1 j o hj ho, h.2.1, h.2.2⟩
theorem XF_g {lo lg lr : List Nat} {σ : xS} {A : Nat → Option xO} {B : Nat → Option (Nat × (Nat → Int32))} {C : Nat → Option (Nat × (Nat → Option Nat))} {k : Nat} {v : Option (Nat × (Nat → Int32))} (h : XF lo lg lr σ (A, B, C)) (hk : (k ∈ lg ∧ σ.2.1 k ≠ none) ∨ (24 ≤ k ∧ σ.2.1 k = none)) : XF lo lg lr σ (A, va_up B k v, C) := ⟨h.1, fun j o hj ho => by
    have hne : j ≠ k := fun z => by
      subst z
      rcases hk with hk | hk
      · exact hj hk.1
      · rw [hk.2] at ho; cases ho
    show va_up B k v j = _
    rw [va_up_ne _ _ hne]
    exact h.2.1 j o hj ho, h.2.2.1, fun j hj h0 => by
    have hne : j ≠ k := fun z => by
      subst z
      rcases hk with hk | hk
      · exact hk.2 h0
      · omega
    show va_up B k v j = _
    rw [va_up_ne _ _ hne]
    exact h.2.2.2 j hj h0⟩
theorem XF_r {lo lg lr : List Nat} {σ : xS} {A : Nat → Option xO} {B : Nat → Option (Nat × (Nat → Int32))} {C : Nat → Option (Nat × (Nat → Option Nat))} {k : Nat} {v : Option (Nat × (Nat → Option Nat))} (h : XF lo lg lr σ (A, B, C)) (hk : k ∈ lr ∨ σ.2.2 k = none) : XF lo lg lr σ (A, B, va_up C k v) := ⟨h.1, h.2.1, fun j o hj ho => by
    have hne : j ≠ k := fun z => by
      subst z
      rcases hk with hk | hk
      · exact hj hk
      · rw [hk] at ho; cases ho
    show va_up C k v j = _
    rw [va_up_ne _ _ hne]
    exact h.2.2.1 j o hj ho, h.2.2.2⟩
theorem xo {σ : xS} {t : Nat} {o : xO} (h : σ.1 t = some o) {P : xO → Prop} : (∃ c, σ.1 t = some c ∧ P c) = P o := propext ⟨fun ⟨c, h1, h2⟩ => by rw [h] at h1; cases h1; exact h2, fun h2 => ⟨o, h, h2⟩⟩
theorem xg {σ : xS} {t : Nat} {o : Nat × (Nat → Int32)} (h : σ.2.1 t = some o) {P : Nat × (Nat → Int32) → Prop} : (∃ c, σ.2.1 t = some c ∧ P c) = P o := propext ⟨fun ⟨c, h1, h2⟩ => by rw [h] at h1; cases h1; exact h2, fun h2 => ⟨o, h, h2⟩⟩
theorem xr {σ : xS} {t : Nat} {o : Nat × (Nat → Option Nat)} (h : σ.2.2 t = some o) {P : Nat × (Nat → Option Nat) → Prop} : (∃ c, σ.2.2 t = some c ∧ P c) = P o := propext ⟨fun ⟨c, h1, h2⟩ => by rw [h] at h1; cases h1; exact h2, fun h2 => ⟨o, h, h2⟩⟩
theorem xl {σ : xS} {t n : Nat} (h : x_len σ t = some n) {P : Nat → Prop} : (∃ c, x_len σ t = some c ∧ P c) = P n := propext ⟨fun ⟨c, h1, h2⟩ => by rw [h] at h1; cases h1; exact h2, fun h2 => ⟨n, h, h2⟩⟩
theorem xu {A : Type} {f : Nat → Option A} {k : Nat} {v : A} {P : A → Prop} : (∃ c, va_up f k (some v) k = some c ∧ P c) = P v := propext ⟨fun ⟨c, h1, h2⟩ => by rw [va_up_self] at h1; cases h1; exact h2, fun h2 => ⟨v, va_up_self _ _ _, h2⟩⟩
theorem x_lenG {σ : xS} {t : Nat} {o : Nat × (Nat → Int32)} (h : σ.2.1 t = some o) : x_len σ t = some o.1 := by unfold x_len; rw [h]
theorem x_lenR {σ : xS} {t : Nat} {o : Nat × (Nat → Option Nat)} (h0 : σ.2.1 t = none) (h : σ.2.2 t = some o) : x_len σ t = some o.1 := by unfold x_len; rw [h0, h]; rfl
/-- a Text, with its row behind it -/
def TXT (σ : xS) (t : Nat) (L : List Int32) : Prop := ∃ fi fr g, σ.1 t = some (3, fi, fr) ∧ fr 0 = some (t + 1) ∧ fi 1 = nI L.length ∧ σ.2.1 (t + 1) = some (120, g) ∧ AP g L ∧ L.length ≤ 120
theorem TXT_f {σ σ' : xS} {t : Nat} {L : List Int32} {lo lg lr : List Nat} (h : TXT σ t L) (hf : XF lo lg lr σ σ') (h1 : t ∉ lo) (h2 : t + 1 ∉ lg) : TXT σ' t L := by
  obtain ⟨fi, fr, g, a1, a2, a3, a4, a5⟩ := h
  exact ⟨fi, fr, g, hf.1 t _ h1 a1, a2, a3, hf.2.1 _ _ h2 a4, a5⟩
/-- a cell's own fields -/
def xck (σ : xS) (o : xO) (v : cV) : Prop := match v with
  | .inl t => o.2.1 0 = nI 0 ∧ o.2.1 6 = nI 0 ∧ o.2.2 3 = none ∧ o.2.2 4 = none ∧ o.2.2 5 = none ∧ ∃ p g, o.2.2 2 = some p ∧ 24 ≤ p ∧ σ.2.1 p = some (t.length, g) ∧ AP g t
  | .inr (.inl q) => o.2.1 0 = nI 1 ∧ o.2.2 3 = some q.1 ∧ o.2.2 4 = some q.2 ∧ o.2.2 5 = none
  | .inr (.inr q) => o.2.1 0 = nI 2 ∧ o.2.1 6 = nI q.2.1 ∧ o.2.2 3 = none ∧ o.2.2 4 = none ∧ o.2.2 5 = some q.1
def XC (σ : xS) (T : sT) : Prop := ∀ c v, T c = some v → 24 ≤ c ∧ ∃ o : xO, σ.1 c = some o ∧ o.1 = 0 ∧ o.2.1 1 = nI (tx T 13 c).length ∧ xck σ o v
theorem xck_f {σ σ' : xS} {o : xO} {v : cV} {lo lg lr : List Nat} (h : xck σ o v) (hf : XF lo lg lr σ σ') (hg : ∀ k ∈ lg, k < 24) : xck σ' o v := by
  rcases v with t | q | q
  · obtain ⟨a1, a2, a3, a4, a5, p, g, a6, a7, a8, a9⟩ := h
    exact ⟨a1, a2, a3, a4, a5, p, g, a6, a7, hf.2.1 p _ (fun z => by have := hg p z; omega) a8, a9⟩
  · exact h
  · exact h
theorem XC_f {σ σ' : xS} {T : sT} {lo lg lr : List Nat} (h : XC σ T) (hf : XF lo lg lr σ σ') (ho : ∀ k ∈ lo, T k = none) (hg : ∀ k ∈ lg, k < 24) : XC σ' T := fun c v hc => by
  obtain ⟨h1, o, h2, h3, h4, h5⟩ := h c v hc
  exact ⟨h1, o, hf.1 c o (fun z => by have := ho c z; rw [hc] at this; cases this) h2, h3, h4, xck_f h5 hf hg⟩
theorem XC_24 {σ : xS} {T : sT} (h : XC σ T) {k : Nat} (hk : k < 24) : T k = none := by
  cases hv : T k with
  | none => rfl
  | some v => have := (h k v hv).1; omega
/-- the sign at a place of a Text -/
theorem q_signAt {σ : xS} {t : Nat} {L : List Int32} (h : TXT σ t L) (i : Int32) : P_X3_signAt [.inr (some t), .inl i] σ 0 0 (mI (fun r σ' => σ' = σ ∧ r = (ix L i).getD 0)) := by
  obtain ⟨fi, fr, g, a1, a2, a3, a4, a5, a6⟩ := h
  refine e_X3_signAt i t σ 0 0 _ _ a1 rfl ?_
  simp only [r_X3_signAt_0, r_X3_signAt_1, r_X3_signAt_4, r_X3_signAt_5, r_X3_signAt_6, r_X3_signAt_9, r_X3_signAt_12, r_X3_signAt_13, r_X3_signAt_14, r_X3_signAt_17, r_X3_signAt_18, r_X3_signAt_21, r_X3_signAt_22, r_X3_signAt_25, r_X3_signAt_26, r_X3_signAt_27, r_X3_signAt_30, r_X3_signAt_31, xo a1, true_and, a2, a3, xl (x_lenG a4), xg a4, mI_e]
  rcases ix_cases L (by omega) i with ⟨h1, h2⟩ | ⟨j, x, rfl, hj, hx, h1⟩
  · rw [h1]
    refine ⟨fun _ => nI_0, fun hn => ⟨fun _ => nI_0, fun hl => ?_⟩⟩
    rcases h2 with h2 | h2
    · exact absurd h2 hn
    · exact absurd h2 hl
  · rw [h1]
    refine ⟨fun z => absurd z (nI_pos (by omega)), fun _ => ⟨fun z => ?_, fun _ => ⟨fun z => ?_, fun _ => ?_⟩⟩⟩
    · rw [nI_leI (by omega) (by omega)] at z; omega
    · rw [nI_leI (by omega) (by omega)] at z; omega
    · rw [nI_clamp (by omega), vp_in_i (by omega)]
      exact ⟨by omega, a5 j x hx⟩
/-- a leaf's sign -/
theorem q_leafSign {σ : xS} {T : sT} (h : XC σ T) {c : Nat} {t : List Int32} (hc : T c = some (.inl t)) (hl : t.length ≤ 120) (i : Int32) : P_X0_signAt [.inr (some c), .inl i] σ 0 0 (mI (fun r σ' => σ' = σ ∧ r = (ix t i).getD 0)) := by
  obtain ⟨h1, o, a1, a2, a3, b1, b2, b3, b4, b5, p, g, b6, b7, b8, b9⟩ := h c _ hc
  refine e_X0_signAt i c σ 0 0 _ _ a1 a2 ?_
  have hq : ∀ {P : Prop}, (∀ q, some p = some q → P) = P := propext ⟨fun h => h p rfl, fun h q _ => h⟩
  have hn : ∀ {P : Prop}, (some p = none → P) = True := propext ⟨fun _ => trivial, fun _ z => by cases z⟩
  simp only [r_X0_signAt_0, r_X0_signAt_1, r_X0_signAt_4, r_X0_signAt_7, r_X0_signAt_8, r_X0_signAt_11, r_X0_signAt_12, r_X0_signAt_13, r_X0_signAt_16, r_X0_signAt_17, r_X0_signAt_20, r_X0_signAt_21, r_X0_signAt_24, r_X0_signAt_25, r_X0_signAt_26, r_X0_signAt_29, r_X0_signAt_30, xo a1, a2, true_and, b6, hq, hn, xl (x_lenG b8), xg b8, mI_e]
  rcases ix_cases t (by omega) i with ⟨h1, h2⟩ | ⟨j, x, rfl, hj, hx, h1⟩
  · rw [h1]
    refine ⟨fun _ => nI_0, fun hn => ⟨fun _ => nI_0, fun hl => ?_⟩⟩
    rcases h2 with h2 | h2
    · exact absurd h2 hn
    · exact absurd h2 hl
  · rw [h1]
    refine ⟨fun z => absurd z (nI_pos (by omega)), fun _ => ⟨fun z => ?_, fun _ => ?_⟩⟩
    · rw [nI_leI (by omega) (by omega)] at z; omega
    · rw [nI_clamp (by omega), vp_in_i (by omega)]
      exact ⟨by omega, b9 j x hx⟩
/-- a sign more -/
theorem q_addSign {σ : xS} {t : Nat} (ht : t ≤ 20) {L : List Int32} (h : TXT σ t L) (hl : L.length < 120) (x : Int32) : P_X3_addSign [.inr (some t), .inl x] σ 0 0 (mN (fun σ' => XF [t] [t + 1] [] σ σ' ∧ TXT σ' t (L ++ [x]))) := by
  obtain ⟨fi, fr, g, a1, a2, a3, a4, a5, a6⟩ := h
  refine e_X3_addSign x t σ 0 0 _ _ a1 rfl ?_
  simp only [r_X3_addSign_0, r_X3_addSign_1, r_X3_addSign_4, r_X3_addSign_7, r_X3_addSign_8, r_X3_addSign_11, r_X3_addSign_12, r_X3_addSign_15, r_X3_addSign_16, r_X3_addSign_19, r_X3_addSign_20, r_X3_addSign_23, r_X3_addSign_24, r_X3_addSign_27, r_X3_addSign_28, r_X3_addSign_29, r_X3_addSign_30, r_X3_addSign_31, r_X3_addSign_34, r_X3_addSign_35, r_X3_addSign_36, r_X3_addSign_39, xo a1, true_and, a2, a3, xl (x_lenG a4), xg a4, mN_e, nI_clamp (show L.length < 2 ^ 31 by omega), vp_in_i (show L.length < 2 ^ 31 by omega), nI_add, nI_leI (show 120 < 2 ^ 31 by omega) (show L.length < 2 ^ 31 by omega)]
  refine ⟨fun z => absurd z (nI_pos (by omega)), fun _ => ⟨fun z => by omega, fun _ => ⟨by omega, by omega, hl, ?_⟩⟩⟩
  refine ⟨XF_o (XF_g (XF_rf _ _ _ _) (Or.inl ⟨by simp, by rw [a4]; exact fun z => by cases z⟩)) (Or.inl (by simp)), upd fi 1 (nI (L.length + 1)), fr, upd g L.length x, va_up_self _ _ _, a2, ?_, va_up_self _ _ _, AP_push a5 x, ?_⟩
  · rw [pk_us, List.length_append, List.length_singleton]
  · rw [List.length_append, List.length_singleton]; omega
theorem q_clear {σ : xS} {t : Nat} {L : List Int32} (h : TXT σ t L) : P_X3_clear [.inr (some t)] σ 0 0 (mN (fun σ' => XF [t] [] [] σ σ' ∧ TXT σ' t [])) := by
  obtain ⟨fi, fr, g, a1, a2, a3, a4, a5, a6⟩ := h
  refine e_X3_clear t σ 0 0 _ _ a1 rfl ?_
  simp only [r_X3_clear_0, r_X3_clear_1, r_X3_clear_2, r_X3_clear_5, xo a1, true_and, mN_e]
  exact ⟨XF_o (XF_rf _ _ _ _) (Or.inl (by simp)), upd fi 1 (nI 0), fr, g, va_up_self _ _ _, a2, pk_us, a4, AP_nil _, by simp⟩
