/-! ===== the reference: marks ===== -/
def ch (T : sT) (x : Nat) : List Nat := match T x with
  | some (.inr (.inl q)) => [q.1, q.2]
  | some (.inr (.inr q)) => [q.1]
  | _ => []
theorem ch_leaf {T : sT} {x : Nat} {t : List Int32} (h : T x = some (.inl t)) : ch T x = [] := by simp only [ch, h]
theorem ch_join {T : sT} {x : Nat} {q : Nat × Nat} (h : T x = some (.inr (.inl q))) : ch T x = [q.1, q.2] := by simp only [ch, h]
theorem ch_slice {T : sT} {x : Nat} {q : Nat × Nat × Nat} (h : T x = some (.inr (.inr q))) : ch T x = [q.1] := by simp only [ch, h]
theorem rl_self {T : sT} (n c : Nat) : c ∈ rl T n c := by
  cases n <;> (simp only [rl]; split <;> simp)
theorem rl_ch {T : sT} : ∀ (n c : Nat), wf T n c → ∀ x ∈ rl T n c, (∀ y ∈ ch T x, y ∈ rl T n c) ∧ T x ≠ none := by
  intro n
  induction n with
  | zero =>
    intro c hw x hx
    rcases wf_cases hw with ⟨t, hc, ht⟩ | ⟨q, hc, hq⟩ | ⟨k, q, hk, -⟩
    · rw [rl_leaf hc, List.mem_singleton] at hx
      subst hx
      exact ⟨fun y hy => by rw [ch_leaf hc] at hy; simp at hy, wf_nn hw⟩
    · rw [rl_slice hc] at hx ⊢
      obtain ⟨t, ht, -⟩ := hq
      rcases List.mem_cons.mp hx with h | h
      · subst h
        exact ⟨fun y hy => by rw [ch_slice hc, List.mem_singleton] at hy; subst hy; simp, wf_nn hw⟩
      · cases List.mem_singleton.mp h
        exact ⟨fun y hy => by rw [ch_leaf ht] at hy; simp at hy, by rw [ht]; exact fun z => by cases z⟩
    · cases hk
  | succ n ih =>
    intro c hw x hx
    rcases wf_cases hw with ⟨t, hc, ht⟩ | ⟨q, hc, hq⟩ | ⟨k, q, hk, hc, h1, h2, h3, h4, h5⟩
    · rw [rl_leaf hc, List.mem_singleton] at hx
      subst hx
      exact ⟨fun y hy => by rw [ch_leaf hc] at hy; simp at hy, wf_nn hw⟩
    · rw [rl_slice hc] at hx ⊢
      obtain ⟨t, ht, -⟩ := hq
      rcases List.mem_cons.mp hx with h | h
      · subst h
        exact ⟨fun y hy => by rw [ch_slice hc, List.mem_singleton] at hy; subst hy; simp, wf_nn hw⟩
      · cases List.mem_singleton.mp h
        exact ⟨fun y hy => by rw [ch_leaf ht] at hy; simp at hy, by rw [ht]; exact fun z => by cases z⟩
    · cases hk
      rw [rl_join hc] at hx ⊢
      rcases List.mem_cons.mp hx with h | h
      · subst h
        refine ⟨fun y hy => ?_, wf_nn hw⟩
        rw [ch_join hc] at hy
        simp only [List.mem_cons, List.not_mem_nil, or_false] at hy
        rcases hy with rfl | rfl
        · exact List.mem_cons_of_mem _ (List.mem_append_left _ (rl_self n _))
        · exact List.mem_cons_of_mem _ (List.mem_append_right _ (rl_self n _))
      · rcases List.mem_append.mp h with h | h
        · obtain ⟨g1, g2⟩ := ih q.1 h1 x h
          exact ⟨fun y hy => List.mem_cons_of_mem _ (List.mem_append_left _ (g1 y hy)), g2⟩
        · obtain ⟨g1, g2⟩ := ih q.2 h2 x h
          exact ⟨fun y hy => List.mem_cons_of_mem _ (List.mem_append_right _ (g1 y hy)), g2⟩
/-- what is closed has all that its cells have -/
theorem rl_in {T : sT} {V : List Nat} (hV : ∀ x ∈ V, ∀ y ∈ ch T x, y ∈ V) : ∀ (n c : Nat), wf T n c → c ∈ V → ∀ x ∈ rl T n c, x ∈ V := by
  intro n
  induction n with
  | zero =>
    intro c hw hcV x hx
    rcases wf_cases hw with ⟨t, hc, ht⟩ | ⟨q, hc, hq⟩ | ⟨k, q, hk, -⟩
    · rw [rl_leaf hc, List.mem_singleton] at hx; subst hx; exact hcV
    · rw [rl_slice hc] at hx
      rcases List.mem_cons.mp hx with h | h
      · subst h; exact hcV
      · cases List.mem_singleton.mp h
        exact hV c hcV _ (by rw [ch_slice hc]; simp)
    · cases hk
  | succ n ih =>
    intro c hw hcV x hx
    rcases wf_cases hw with ⟨t, hc, ht⟩ | ⟨q, hc, hq⟩ | ⟨k, q, hk, hc, h1, h2, h3, h4, h5⟩
    · rw [rl_leaf hc, List.mem_singleton] at hx; subst hx; exact hcV
    · rw [rl_slice hc] at hx
      rcases List.mem_cons.mp hx with h | h
      · subst h; exact hcV
      · cases List.mem_singleton.mp h
        exact hV c hcV _ (by rw [ch_slice hc]; simp)
    · cases hk
      rw [rl_join hc] at hx
      rcases List.mem_cons.mp hx with h | h
      · subst h; exact hcV
      · rcases List.mem_append.mp h with h | h
        · exact ih q.1 h1 (hV c hcV _ (by rw [ch_join hc]; simp)) x h
        · exact ih q.2 h2 (hV c hcV _ (by rw [ch_join hc]; simp)) x h
/-- numbers below N, each once: no more than N -/
theorem nodup_lt : ∀ (N : Nat) (l : List Nat), l.Nodup → (∀ x ∈ l, x < N) → l.length ≤ N
  | 0, l, _, h => by
    cases l with
    | nil => exact Nat.le_refl _
    | cons a l => exact absurd (h a List.mem_cons_self) (by omega)
  | N + 1, l, hn, h => by
    by_cases hm : N ∈ l
    · have h1 := nodup_lt N (l.erase N) (hn.erase N) (fun x hx => by
        have hx1 := List.mem_of_mem_erase hx
        have hx2 : x ≠ N := fun z => by subst z; exact (List.Nodup.not_mem_erase hn) hx
        have := h x hx1
        omega)
      rw [List.length_erase_of_mem hm] at h1
      omega
    · have := nodup_lt N l hn (fun x hx => by
        have h1 := h x hx
        have h2 : x ≠ N := fun z => hm (z ▸ hx)
        omega)
      omega
theorem nodup_map_inj {ι : Nat → Nat} : ∀ (l : List Nat), l.Nodup → (∀ x ∈ l, ∀ y ∈ l, ι x = ι y → x = y) → (l.map ι).Nodup
  | [], _, _ => List.nodup_nil
  | a :: l, hn, h => by
    obtain ⟨h1, h2⟩ := List.nodup_cons.mp hn
    refine List.nodup_cons.mpr ⟨fun hz => ?_, nodup_map_inj l h2 (fun x hx y hy => h x (List.mem_cons_of_mem _ hx) y (List.mem_cons_of_mem _ hy))⟩
    obtain ⟨y, hy, hy2⟩ := List.mem_map.mp hz
    have := h y (List.mem_cons_of_mem _ hy) a List.mem_cons_self hy2
    exact h1 (this ▸ hy)
theorem k_clearMarks (μ : rf_M) : P_clearMarks [.inr (some 39)] μ 0 0 (mN (fun μ' => CH [4] μ μ' ∧ ∀ j, j < 20480 → μ'.2 4 j = 0)) := by
  refine e_clearMarks μ _ ?_
  generalize hret : (mN (fun μ' => CH [4] μ μ' ∧ ∀ j, j < 20480 → μ'.2 4 j = 0)) = ret
  have key : ∀ y : Nat × rf_M, (y.1 ≤ 20480 ∧ CH [4] μ y.2 ∧ ∀ j, j < y.1 → y.2.2 4 j = 0) → W_clearMarks ret (2, [some (.inr (some 39)), some (.inl (nI y.1))], [], y.2, 0, 0) := by
    refine mm_loop _ _ (fun y => 20480 - y.1) ?_
    rintro ⟨i, μ2⟩ ⟨j0, j1, j2⟩ ih
    dsimp only at j0 j1 j2 ⊢
    rw [r_clearMarks_2]
    simp only [r_clearMarks_0, r_clearMarks_1, r_clearMarks_3, r_clearMarks_6, r_clearMarks_9, r_clearMarks_10, r_clearMarks_13, r_clearMarks_14, r_clearMarks_15, r_clearMarks_16, r_clearMarks_19, r_clearMarks_22, nI_leI (show 20480 < 2 ^ 31 by omega) (show i < 2 ^ 31 by omega), nI_add, nI_clamp (show i < 2 ^ 31 by omega), vp_in_i (show i < 2 ^ 31 by omega)]
    refine ⟨fun h => ?_, fun h => ⟨by omega, Or.inl nI_0, ?_⟩⟩
    · have : i = 20480 := by omega
      subst this
      subst hret
      rw [mN_e]
      exact ⟨j1, j2⟩
    · refine ih (i + 1, (μ2.1, rf_up μ2.2 4 i (nI 0))) ⟨by dsimp only; omega, CH_a2 j1 (by decide), fun j hj => ?_⟩ (by dsimp only; omega)
      dsimp only at hj ⊢
      rw [rf_up_s]
      by_cases hji : j = i
      · subst hji; rw [pk_us, nI_0]
      · rw [pk_un hji]; exact j2 j (by omega)
  simp only [r_clearMarks_0, r_clearMarks_1, r_clearMarks_3, r_clearMarks_6, r_clearMarks_9, r_clearMarks_10, r_clearMarks_13, r_clearMarks_14, r_clearMarks_15, r_clearMarks_16, r_clearMarks_19, r_clearMarks_22]
  exact key (0, μ) ⟨Nat.zero_le _, CH_rf _ _, fun j hj => by omega⟩
/-- which cells are marked -/
def MKS (ι : Nat → Nat) (μ : rf_M) (V : List Nat) : Prop := ∀ j, j < 20480 → (μ.2 4 j = 0 ∨ μ.2 4 j = 1) ∧ (μ.2 4 j = 1 ↔ ∃ x ∈ V, ι x = j)
theorem MKS_0 {ι : Nat → Nat} {μ : rf_M} (h : ∀ j, j < 20480 → μ.2 4 j = 0) : MKS ι μ [] := fun j hj => ⟨Or.inl (h j hj), by rw [h j hj]; exact ⟨fun z => absurd z (by decide), fun ⟨x, hx, _⟩ => by simp at hx⟩⟩
def okV (T : sT) (V : List Nat) : Prop := V.Nodup ∧ ∀ x ∈ V, T x ≠ none
theorem okV_len {T : sT} {ι : Nat → Nat} {μ : rf_M} {V : List Nat} (hK : RK T ι μ) (hinj : ∀ a b, T a ≠ none → T b ≠ none → ι a = ι b → a = b) (h : okV T V) : V.length ≤ 20480 := by
  have := nodup_lt 20480 (V.map ι) (nodup_map_inj V h.1 (fun x hx y hy => hinj x y (h.2 x hx) (h.2 y hy))) (fun x hx => by
    obtain ⟨y, hy, rfl⟩ := List.mem_map.mp hx
    obtain ⟨v, hv⟩ := Option.ne_none_iff_exists'.mp (h.2 y hy)
    exact (hK y v hv).1)
  rwa [List.length_map] at this
theorem MKS_in {T : sT} {ι : Nat → Nat} {μ : rf_M} {V : List Nat} (hinj : ∀ a b, T a ≠ none → T b ≠ none → ι a = ι b → a = b) (hV : okV T V) (h : MKS ι μ V) {y : Nat} (hy : T y ≠ none) (hl : ι y < 20480) : (μ.2 4 (ι y) = 0 ↔ y ∉ V) := by
  obtain ⟨h1, h2⟩ := h (ι y) hl
  constructor
  · intro h0 hm
    have := h2.mpr ⟨y, hm, rfl⟩
    rw [h0] at this
    exact absurd this (by decide)
  · intro hn
    rcases h1 with h1 | h1
    · exact h1
    · obtain ⟨x, hx, hxy⟩ := h2.mp h1
      exact absurd (hinj x y (hV.2 x hx) hy hxy ▸ hx) hn
theorem MKS_push {T : sT} {ι : Nat → Nat} {μ : rf_M} {V : List Nat} (h : MKS ι μ V) {y : Nat} {a : Nat → Int32} {g : Nat → Nat → Int32} (hg : g 4 = upd (μ.2 4) (ι y) (nI 1)) : MKS ι (a, g) (V ++ [y]) := by
  intro j hj
  obtain ⟨h1, h2⟩ := h j hj
  show (g 4 j = 0 ∨ g 4 j = 1) ∧ (g 4 j = 1 ↔ _)
  rw [hg]
  by_cases hji : j = ι y
  · subst hji
    rw [pk_us]
    exact ⟨Or.inr rfl, fun _ => ⟨y, by simp, rfl⟩, fun _ => rfl⟩
  · rw [pk_un hji]
    refine ⟨h1, ?_⟩
    rw [h2]
    constructor
    · rintro ⟨x, hx, e⟩; exact ⟨x, List.mem_append_left _ hx, e⟩
    · rintro ⟨x, hx, e⟩
      rcases List.mem_append.mp hx with hx | hx
      · exact ⟨x, hx, e⟩
      · cases List.mem_singleton.mp hx; exact absurd e.symm hji
theorem MKS_ch {ι : Nat → Nat} {μ μ' : rf_M} {V : List Nat} (h : MKS ι μ V) (h4 : μ'.2 4 = μ.2 4) : MKS ι μ' V := fun j hj => by rw [h4]; exact h j hj
def mkI (T : sT) (ι : Nat → Nat) (μ : rf_M) (V0 : List Nat) (c : Nat) (V St : List Nat) (n : Nat) (μ1 : rf_M) : Prop :=
  CH [4, 22] μ μ1 ∧ MKS ι μ1 V ∧ okV T V ∧ AP (μ1.2 22) (St.map (fun p => nI (ι p))) ∧ (∀ x ∈ St, x ∈ V) ∧ V.length = V0.length + n + St.length ∧ (∀ x ∈ V, x ∈ V0 ∨ x ∈ rl T 13 c) ∧ (∀ x ∈ V0, x ∈ V)
/-- a cell that isn't marked yet is marked, and waits -/
theorem mkI_push {T : sT} {ι : Nat → Nat} {μ : rf_M} {V0 : List Nat} {c : Nat} {V St : List Nat} {n : Nat} {μ1 : rf_M} (h : mkI T ι μ V0 c V St n μ1) {y : Nat} (hy : y ∉ V) (hyT : T y ≠ none) (hyr : y ∈ rl T 13 c) : mkI T ι μ V0 c (V ++ [y]) (St ++ [y]) n (μ1.1, rf_up (rf_up μ1.2 4 (ι y) (nI 1)) 22 St.length (nI (ι y))) := by
  obtain ⟨a1, a2, a3, a4, a5, a6, a7, a8⟩ := h
  refine ⟨CH_a2 (CH_a2 a1 (by decide)) (by decide), MKS_push (T := T) a2 (by rw [rf_up_n (by decide), rf_up_s]), ⟨?_, ?_⟩, ?_, ?_, ?_, ?_, fun x hx => List.mem_append_left _ (a8 x hx)⟩
  · refine List.nodup_append.mpr ⟨a3.1, by simp, fun x hx z hz => ?_⟩
    cases List.mem_singleton.mp hz
    exact fun e => hy (e ▸ hx)
  · intro x hx
    rcases List.mem_append.mp hx with hx | hx
    · exact a3.2 x hx
    · cases List.mem_singleton.mp hx; exact hyT
  · show AP (rf_up (rf_up μ1.2 4 (ι y) (nI 1)) 22 St.length (nI (ι y)) 22) _
    rw [rf_up_s, rf_up_n (by decide), List.map_append]
    have := AP_push a4 (nI (ι y))
    rwa [List.length_map] at this
  · intro x hx
    rcases List.mem_append.mp hx with hx | hx
    · exact List.mem_append_left _ (a5 x hx)
    · exact List.mem_append_right _ hx
  · simp only [List.length_append, List.length_singleton]; omega
  · intro x hx
    rcases List.mem_append.mp hx with hx | hx
    · exact a7 x hx
    · cases List.mem_singleton.mp hx; exact Or.inr hyr
