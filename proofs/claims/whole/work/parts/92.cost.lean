/-! ===== pure: what a cut costs ===== -/
theorem lbp_ok {T : sT} {x : tL} (h : okL T x) : (lbp T x).length = 1 := by
  rcases x with c | y
  · have h1 : isPc T c := h.1
    show ((pcs T 12 c).map Sum.inl).length = 1
    rcases h1 with ⟨t, hc, -⟩ | ⟨q, hc, -⟩
    · rw [pcs_leaf hc]; rfl
    · rw [pcs_slice hc]; rfl
  · rfl
theorem tps_bal {T : sT} : ∀ (n : Nat) (L : List tL), 0 < L.length → L.length ≤ 2 ^ n → (∀ x ∈ L, okL T x) → (tps T (bal n L)).length = L.length := by
  intro n
  induction n with
  | zero =>
    intro L h0 h1 hL
    match L, h0, h1 with
    | [x], _, _ => exact lbp_ok (hL x List.mem_cons_self)
  | succ n ih =>
    intro L h0 h1 hL
    by_cases h2 : L.length < 2
    · match L, h0, h2 with
      | [x], _, _ => exact lbp_ok (hL x List.mem_cons_self)
    · rw [bal_2 n L h2]
      show (tps T _ ++ tps T _).length = _
      rw [Nat.pow_succ] at h1
      rw [List.length_append, ih (L.take (L.length / 2)) (by rw [List.length_take]; omega) (by rw [List.length_take]; omega) (fun x hx => hL x (List.mem_of_mem_take hx)), ih (L.drop (L.length / 2)) (by rw [List.length_drop]; omega) (by rw [List.length_drop]; omega) (fun x hx => hL x (List.mem_of_mem_drop hx)), List.length_take, List.length_drop]
      omega
theorem tps_join {T : sT} {sm dp : Nat} {a b : tT} (ha : tw T 12 a) (hb : tw T 12 b) (hlen : (ttx T a).length + (ttx T b).length ≤ 120) : (tps T (joinT T sm dp a b)).length ≤ (tps T a).length + (tps T b).length := by
  unfold joinT
  split
  · omega
  · rename_i hb0
    split
    · omega
    · rename_i ha0
      obtain ⟨a1, a2, a3⟩ := tps_okL a 12 (Nat.le_refl _) ha ha0
      obtain ⟨b1, b2, b3⟩ := tps_okL b 12 (Nat.le_refl _) hb hb0
      split
      · show 1 ≤ _
        omega
      · split
        · show (tps T a ++ tps T b).length ≤ _
          rw [List.length_append]; omega
        · have hf : (tps T a ++ tps T b).flatMap (lbt T) = ttx T a ++ ttx T b := by rw [List.flatMap_append, a2, b2]
          have hok : ∀ x ∈ tps T a ++ tps T b, okL T x := fun x hx => (List.mem_append.mp hx).elim (a1 x) (b1 x)
          have hn := fm_len (T := T) (tps T a ++ tps T b) (fun x hx => (hok x hx).2)
          rw [hf, List.length_append (as := ttx T a)] at hn
          rw [tps_bal 7 _ (by rw [List.length_append]; omega) (by omega) hok, List.length_append]
          omega
theorem tps_cutL {T : sT} (t : List Int32) (lo b f m : Nat) : (tps T (cutL t lo b f m)).length = 1 := by
  unfold cutL
  split <;> rfl
section
variable {T : sT} {sm dp lo : Nat}
theorem tps_cutm (hdp : dp ≤ 12) (hlo : 1 ≤ lo ∧ lo ≤ 8) {n c f m : Nat} (hn : n ≤ 12) (hw : wf T n c) (hfm : f + m ≤ (tx T n c).length) (hm : 0 < m) : (tps T (cutT T sm dp lo n c f m)).length ≤ m := by
  obtain ⟨h1, h2⟩ := cutT_ok (T := T) (sm := sm) (dp := dp) (lo := lo) hdp hlo n c f m hn hw hfm
  have hl : (ttx T (cutT T sm dp lo n c f m)).length = m := by rw [h2, List.length_take, List.length_drop]; omega
  obtain ⟨a1, a2, a3⟩ := tps_okL _ 12 (Nat.le_refl _) h1 (fun z => by rw [z] at hl; simp at hl; omega)
  have := fm_len (T := T) _ (fun x hx => (a1 x hx).2)
  rw [a2, hl] at this
  exact this
theorem tps_cut2 (hdp : dp ≤ 12) (hlo : 1 ≤ lo ∧ lo ≤ 8) : ∀ (n c f m : Nat), n ≤ 12 → wf T n c → f + m ≤ (tx T n c).length → (tps T (cutT T sm dp lo n c f m)).length ≤ 2 ^ n := by
  intro n
  induction n with
  | zero =>
    intro c f m hn hw hfm
    by_cases h0 : m = 0
    · subst h0; rw [cutT_0]; exact Nat.le_refl _
    by_cases h1 : m = (tx T 0 c).length
    · subst h1
      rw [cutT_all h0]
      show ((pcs T 12 c).map Sum.inl).length ≤ _
      rw [List.length_map, (wf_le hn hw).2.2.1]
      exact pcs_2 0 c
    rcases wf_cases hw with ⟨t, hc, ht⟩ | ⟨q, hc, hq⟩ | ⟨k, q, hk, -⟩
    · rw [cutT_leaf hc h0 h1, tps_cutL]; exact Nat.le_refl _
    · rw [cutT_slice hc h0 h1, tps_cutL]; exact Nat.le_refl _
    · cases hk
  | succ n ih =>
    intro c f m hn hw hfm
    have hp : 2 ^ (n + 1) = 2 ^ n * 2 := Nat.pow_succ 2 n
    have hp1 : 1 ≤ 2 ^ n := Nat.one_le_two_pow
    by_cases h0 : m = 0
    · subst h0; rw [cutT_0]; show 1 ≤ _; omega
    by_cases h1 : m = (tx T (n + 1) c).length
    · subst h1
      rw [cutT_all h0]
      show ((pcs T 12 c).map Sum.inl).length ≤ _
      rw [List.length_map, (wf_le hn hw).2.2.1]
      exact pcs_2 (n + 1) c
    rcases wf_cases hw with ⟨t, hc, ht⟩ | ⟨q, hc, hq⟩ | ⟨k, q, hk, hc, g1, g2, g3, g4, g5⟩
    · rw [cutT_leaf hc h0 h1, tps_cutL]; omega
    · rw [cutT_slice hc h0 h1, tps_cutL]; omega
    · cases hk
      rw [tx_join hc, List.length_append] at hfm
      rw [cutT_join hc h0 h1]
      split
      · rename_i hl
        have := ih q.1 f m (by omega) g1 hl
        omega
      · split
        · rename_i hl1 hl2
          have := ih q.2 (f - (tx T n q.1).length) m (by omega) g2 (by omega)
          omega
        · rename_i hl1 hl2
          obtain ⟨a1, a2⟩ := cutT_ok (T := T) (sm := sm) (dp := dp) (lo := lo) hdp hlo n q.1 f ((tx T n q.1).length - f) (by omega) g1 (by omega)
          obtain ⟨b1, b2⟩ := cutT_ok (T := T) (sm := sm) (dp := dp) (lo := lo) hdp hlo n q.2 0 (f + m - (tx T n q.1).length) (by omega) g2 (by omega)
          have := tps_join (sm := sm) (dp := dp) a1 b1 (by rw [a2, b2, List.length_take, List.length_take, List.length_drop, List.length_drop]; omega)
          have := ih q.1 f ((tx T n q.1).length - f) (by omega) g1 (by omega)
          have := ih q.2 0 (f + m - (tx T n q.1).length) (by omega) g2 (by omega)
          omega
end
/-- pieces that a cut's joins may balance, all added -/
def sn (T : sT) (sm dp lo : Nat) : Nat → Nat → Nat → Nat → Nat
  | 0, _, _, _ => 0
  | n + 1, c, f, m => if m = 0 then 0 else if m = (tx T (n + 1) c).length then 0 else
    (match T c with
    | some (.inr (.inl q)) => if f + m ≤ (tx T n q.1).length then sn T sm dp lo n q.1 f m
      else if (tx T n q.1).length ≤ f then sn T sm dp lo n q.2 (f - (tx T n q.1).length) m
      else (tps T (cutT T sm dp lo n q.1 f ((tx T n q.1).length - f))).length + (tps T (cutT T sm dp lo n q.2 0 (f + m - (tx T n q.1).length))).length + sn T sm dp lo n q.1 f ((tx T n q.1).length - f) + sn T sm dp lo n q.2 0 (f + m - (tx T n q.1).length)
    | _ => 0)
section
variable {T : sT} {sm dp lo : Nat}
theorem sn_join {n c f m : Nat} {q : Nat × Nat} (hc : T c = some (.inr (.inl q))) (h0 : ¬ m = 0) (h1 : ¬ m = (tx T (n + 1) c).length) : sn T sm dp lo (n + 1) c f m = if f + m ≤ (tx T n q.1).length then sn T sm dp lo n q.1 f m
      else if (tx T n q.1).length ≤ f then sn T sm dp lo n q.2 (f - (tx T n q.1).length) m
      else (tps T (cutT T sm dp lo n q.1 f ((tx T n q.1).length - f))).length + (tps T (cutT T sm dp lo n q.2 0 (f + m - (tx T n q.1).length))).length + sn T sm dp lo n q.1 f ((tx T n q.1).length - f) + sn T sm dp lo n q.2 0 (f + m - (tx T n q.1).length) := by
  simp only [sn]
  rw [if_neg h0, if_neg h1, hc]
theorem sn_all : ∀ (n c f : Nat), sn T sm dp lo n c f (tx T n c).length = 0 := by
  intro n c f
  cases n with
  | zero => rfl
  | succ n =>
    simp only [sn]
    split
    · rfl
    · rfl
def Sg : Nat → Nat → Nat
  | 0, _ => 0
  | n + 1, m => Sg n m + min (2 ^ (n + 1)) m
def Sh : Nat → Nat → Nat
  | 0, _ => 0
  | n + 1, m => Sh n m + min (2 ^ (n + 2)) m
theorem Sg_m : ∀ (n m m' : Nat), m ≤ m' → Sg n m ≤ Sg n m'
  | 0, _, _, _ => Nat.le_refl _
  | n + 1, m, m', h => by
    have := Sg_m n m m' h
    simp only [Sg]
    omega
theorem Sh_m : ∀ (n m m' : Nat), m ≤ m' → Sh n m ≤ Sh n m'
  | 0, _, _, _ => Nat.le_refl _
  | n + 1, m, m', h => by
    have := Sh_m n m m' h
    simp only [Sh]
    omega
theorem Sg_h : ∀ (n m m' : Nat), Sg n m + Sg n m' ≤ Sh n (m + m')
  | 0, _, _ => Nat.le_refl _
  | n + 1, m, m' => by
    have := Sg_h n m m'
    have e : 2 ^ (n + 2) = 2 ^ (n + 1) * 2 := Nat.pow_succ 2 (n + 1)
    simp only [Sg, Sh]
    omega
theorem Sh_n : ∀ (k n m : Nat), Sh n m ≤ Sh (n + k) m
  | 0, _, _ => Nat.le_refl _
  | k + 1, n, m => by
    have := Sh_n k n m
    exact Nat.le_trans this (Nat.le_add_right _ _)
theorem Sh_top {n m : Nat} (hn : n ≤ 11) (hm : m ≤ 120) : Sh n m ≤ 844 := by
  have h1 := Sh_n (11 - n) n m
  rw [show n + (11 - n) = 11 by omega] at h1
  have h2 := Sh_m 11 m 120 hm
  have h3 : Sh 11 120 = 844 := by decide
  omega
theorem np_le (hdp : dp ≤ 12) (hlo : 1 ≤ lo ∧ lo ≤ 8) {n f m : Nat} {q : Nat × Nat} (hn : n + 1 ≤ 12) (g1 : wf T n q.1) (g2 : wf T n q.2) (hl1 : ¬ f + m ≤ (tx T n q.1).length) (hl2 : ¬ (tx T n q.1).length ≤ f) (hfm : f + m ≤ (tx T n q.1).length + (tx T n q.2).length) : (tps T (cutT T sm dp lo n q.1 f ((tx T n q.1).length - f))).length + (tps T (cutT T sm dp lo n q.2 0 (f + m - (tx T n q.1).length))).length ≤ min (2 ^ (n + 1)) m := by
  have hp : 2 ^ (n + 1) = 2 ^ n * 2 := Nat.pow_succ 2 n
  have a1 := tps_cut2 (T := T) (sm := sm) (dp := dp) (lo := lo) hdp hlo n q.1 f ((tx T n q.1).length - f) (by omega) g1 (by omega)
  have a2 := tps_cut2 (T := T) (sm := sm) (dp := dp) (lo := lo) hdp hlo n q.2 0 (f + m - (tx T n q.1).length) (by omega) g2 (by omega)
  have b1 := tps_cutm (T := T) (sm := sm) (dp := dp) (lo := lo) hdp hlo (f := f) (m := (tx T n q.1).length - f) (by omega) g1 (by omega) (by omega)
  have b2 := tps_cutm (T := T) (sm := sm) (dp := dp) (lo := lo) hdp hlo (f := 0) (m := f + m - (tx T n q.1).length) (by omega) g2 (by omega) (by omega)
  omega
theorem sn_suf (hdp : dp ≤ 12) (hlo : 1 ≤ lo ∧ lo ≤ 8) : ∀ (n c f m : Nat), n ≤ 12 → wf T n c → f + m = (tx T n c).length → sn T sm dp lo n c f m ≤ Sg n m := by
  intro n
  induction n with
  | zero => intro c f m _ _ _; exact Nat.le_refl _
  | succ n ih =>
    intro c f m hn hw h
    by_cases h0 : m = 0
    · simp only [sn]; rw [if_pos h0]; omega
    by_cases h1 : m = (tx T (n + 1) c).length
    · simp only [sn]; rw [if_neg h0, if_pos h1]; omega
    rcases wf_cases hw with ⟨t, hc, ht⟩ | ⟨q, hc, hq⟩ | ⟨k, q, hk, hc, g1, g2, g3, g4, g5⟩
    · simp only [sn]; rw [if_neg h0, if_neg h1, hc]; exact Nat.zero_le _
    · simp only [sn]; rw [if_neg h0, if_neg h1, hc]; exact Nat.zero_le _
    · cases hk
      rw [sn_join hc h0 h1]
      rw [tx_join hc, List.length_append] at h
      have hr : 0 < (tx T n q.2).length := List.length_pos_iff.mpr g4
      rw [if_neg (by omega)]
      have hp0 : 0 < 2 ^ n := Nat.two_pow_pos n
      simp only [Sg]
      split
      · rename_i h2
        have := ih q.2 (f - (tx T n q.1).length) m (by omega) g2 (by omega)
        omega
      · rename_i h2
        have a := ih q.1 f ((tx T n q.1).length - f) (by omega) g1 (by omega)
        have a' := Sg_m n ((tx T n q.1).length - f) m (by omega)
        have b := np_le (T := T) (sm := sm) (dp := dp) (lo := lo) hdp hlo (f := f) (m := m) (q := q) hn g1 g2 (by omega) h2 (by omega)
        have e : f + m - (tx T n q.1).length = (tx T n q.2).length := by omega
        rw [e] at b ⊢
        rw [sn_all]
        omega
theorem sn_pre (hdp : dp ≤ 12) (hlo : 1 ≤ lo ∧ lo ≤ 8) : ∀ (n c m : Nat), n ≤ 12 → wf T n c → m ≤ (tx T n c).length → sn T sm dp lo n c 0 m ≤ Sg n m := by
  intro n
  induction n with
  | zero => intro c m _ _ _; exact Nat.le_refl _
  | succ n ih =>
    intro c m hn hw h
    by_cases h0 : m = 0
    · simp only [sn]; rw [if_pos h0]; omega
    by_cases h1 : m = (tx T (n + 1) c).length
    · simp only [sn]; rw [if_neg h0, if_pos h1]; omega
    rcases wf_cases hw with ⟨t, hc, ht⟩ | ⟨q, hc, hq⟩ | ⟨k, q, hk, hc, g1, g2, g3, g4, g5⟩
    · simp only [sn]; rw [if_neg h0, if_neg h1, hc]; exact Nat.zero_le _
    · simp only [sn]; rw [if_neg h0, if_neg h1, hc]; exact Nat.zero_le _
    · cases hk
      rw [sn_join hc h0 h1]
      rw [tx_join hc, List.length_append] at h
      have hr : 0 < (tx T n q.1).length := List.length_pos_iff.mpr g3
      have hp0 : 0 < 2 ^ n := Nat.two_pow_pos n
      simp only [Sg]
      split
      · rename_i h2
        have := ih q.1 m (by omega) g1 (by omega)
        omega
      · rename_i h2
        rw [if_neg (by omega)]
        have a := ih q.2 (0 + m - (tx T n q.1).length) (by omega) g2 (by omega)
        have a' := Sg_m n (0 + m - (tx T n q.1).length) m (by omega)
        have b := np_le (T := T) (sm := sm) (dp := dp) (lo := lo) hdp hlo (f := 0) (m := m) (q := q) hn g1 g2 (by omega) (by omega) (by omega)
        rw [Nat.sub_zero] at b ⊢
        rw [sn_all]
        omega
theorem sn_le (hdp : dp ≤ 12) (hlo : 1 ≤ lo ∧ lo ≤ 8) : ∀ (n c f m : Nat), n ≤ 12 → wf T n c → f + m ≤ (tx T n c).length → sn T sm dp lo n c f m ≤ 964 := by
  intro n
  induction n with
  | zero => intro c f m _ _ _; exact Nat.zero_le _
  | succ n ih =>
    intro c f m hn hw h
    by_cases h0 : m = 0
    · simp only [sn]; rw [if_pos h0]; omega
    by_cases h1 : m = (tx T (n + 1) c).length
    · simp only [sn]; rw [if_neg h0, if_pos h1]; omega
    rcases wf_cases hw with ⟨t, hc, ht⟩ | ⟨q, hc, hq⟩ | ⟨k, q, hk, hc, g1, g2, g3, g4, g5⟩
    · simp only [sn]; rw [if_neg h0, if_neg h1, hc]; exact Nat.zero_le _
    · simp only [sn]; rw [if_neg h0, if_neg h1, hc]; exact Nat.zero_le _
    · cases hk
      rw [sn_join hc h0 h1]
      rw [tx_join hc, List.length_append] at h
      split
      · rename_i h2
        exact ih q.1 f m (by omega) g1 h2
      · split
        · rename_i h2 h3
          exact ih q.2 (f - (tx T n q.1).length) m (by omega) g2 (by omega)
        · rename_i h2 h3
          have a := sn_suf (T := T) (sm := sm) (dp := dp) (lo := lo) hdp hlo n q.1 f ((tx T n q.1).length - f) (by omega) g1 (by omega)
          have a' := sn_pre (T := T) (sm := sm) (dp := dp) (lo := lo) hdp hlo n q.2 (f + m - (tx T n q.1).length) (by omega) g2 (by omega)
          have b := np_le (T := T) (sm := sm) (dp := dp) (lo := lo) hdp hlo (f := f) (m := m) (q := q) hn g1 g2 h2 h3 (by omega)
          have s1 := Sg_h n ((tx T n q.1).length - f) (f + m - (tx T n q.1).length)
          have s2 := Sh_top (n := n) (m := (tx T n q.1).length - f + (f + m - (tx T n q.1).length)) (by omega) (by omega)
          omega
end
