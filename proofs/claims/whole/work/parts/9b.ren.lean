/-! ===== pure: one store, seen from both sides ===== -/
def mv (φ : Nat → Nat) (v : cV) : cV := match v with
  | .inl t => .inl t
  | .inr (.inl q) => .inr (.inl (φ q.1, φ q.2))
  | .inr (.inr q) => .inr (.inr (φ q.1, q.2))
theorem rT_len {T T' : sT} : ∀ (t : tT) (r r' : Nat) (F F' : List Nat), rT T t r F → rT T' t r' F' → F.length = F'.length
  | .leaf, _, _, _, _, h, _ => h.elim
  | .inner 0 x _ _ _, r, r', F, F', h, h' => by
    rw [h.2, h'.2]
    rcases x with c | y <;> rfl
  | .inner (_ + 1) _ _ l s, r, r', F, F', h, h' => by
    obtain ⟨a, b, Fa, Fb, h1, h2, h3, h4⟩ := h
    obtain ⟨a', b', Fa', Fb', g1, g2, g3, g4⟩ := h'
    have i1 := rT_len l a a' Fa Fa' h2 g2
    have i2 := rT_len s b b' Fb Fb' h3 g3
    rw [h4, g4]
    simp only [List.length_cons, List.length_append, i1, i2]
theorem rT_on {T T' : sT} : ∀ (t : tT) (r : Nat) (F : List Nat), (∀ x ∈ F, T' x = T x) → rT T t r F → rT T' t r F
  | .leaf, _, _, _, h => h
  | .inner 0 x _ _ _, r, F, hx, h => by
    obtain ⟨h1, h2⟩ := h
    refine ⟨?_, h2⟩
    rcases x with c | t | q
    · exact h1
    · show T' r = some (.inl t)
      rw [hx r (by rw [h2]; simp [nwL])]; exact h1
    · show T' r = some (.inr (.inr q))
      rw [hx r (by rw [h2]; simp [nwL])]; exact h1
  | .inner (_ + 1) _ _ l s, r, F, hx, h => by
    obtain ⟨a, b, Fa, Fb, h1, h2, h3, h4⟩ := h
    subst h4
    exact ⟨a, b, Fa, Fb, by rw [hx r List.mem_cons_self]; exact h1, rT_on l a Fa (fun x q => hx x (List.mem_cons_of_mem _ (List.mem_append_left _ q))) h2, rT_on s b Fb (fun x q => hx x (List.mem_cons_of_mem _ (List.mem_append_right _ q))) h3, rfl⟩
theorem rT_wf {T T' : sT} (h : ∀ c v, T c = some v → T' c = some v) : ∀ (t : tT) (n r : Nat) (F : List Nat), n ≤ 12 → tw T n t → rT T' t r F → ∀ x ∈ F, wf T' 12 x
  | .leaf, n, _, _, _, hw, _ => by cases n <;> exact hw.elim
  | .inner 0 y _ _ _, n, r, F, hn, hw, hr => by
    intro x hx
    have hk := rT_ok h (.inner 0 y _ _ _) n r F hn hw hr
    obtain ⟨h1, h2⟩ := hr
    rw [h2] at hx
    have : x = r := by
      rcases y with c | y
      · simp [nwL] at hx
      · simpa [nwL] using hx
    rw [this]
    exact (wf_le hn hk.1).1
  | .inner (_ + 1) _ _ l s, 0, r, F, hn, hw, hr => hw.elim
  | .inner (k + 1) z u l s, n + 1, r, F, hn, hw, hr => by
    have hk := rT_ok h (.inner (k + 1) z u l s) (n + 1) r F hn hw hr
    obtain ⟨a, b, Fa, Fb, h1, h2, h3, h4⟩ := hr
    have i1 := rT_wf h l n a Fa (by omega) hw.1 h2
    have i2 := rT_wf h s n b Fb (by omega) hw.2.1 h3
    intro x hx
    rw [h4] at hx
    rcases List.mem_cons.mp hx with rfl | hx
    · exact (wf_le hn hk.1).1
    · rcases List.mem_append.mp hx with hx | hx
      · exact i1 x hx
      · exact i2 x hx
/-- two places of one tree: cell by cell -/
theorem rT_hom {T2 T' T3 : sT} {φ : Nat → Nat} (hφ : ∀ c, T2 c ≠ none → φ c = c) : ∀ (t : tT) (n r r' : Nat) (F F' : List Nat), tw T2 n t → rT T' t r F → rT T3 t r' F' → (∀ (i : Nat) (x y : Nat), F[i]? = some x → F'[i]? = some y → φ x = y) → φ r = r' ∧ ∀ x ∈ F, ∃ v, T' x = some v ∧ T3 (φ x) = some (mv φ v)
  | .leaf, n, _, _, _, _, hw, _, _, _ => by cases n <;> exact hw.elim
  | .inner 0 y _ _ _, n, r, r', F, F', hw, hr, hr', hi => by
    have hw : lbw T2 n y := by cases n <;> exact hw
    obtain ⟨h1, h2⟩ := hr
    obtain ⟨g1, g2⟩ := hr'
    rcases y with c | t | q
    · have h1 : r = c := h1
      have g1 : r' = c := g1
      refine ⟨by rw [h1, g1]; exact hφ c (wf_nn hw), fun x hx => ?_⟩
      rw [h2] at hx
      simp [nwL] at hx
    · have e : φ r = r' := hi 0 r r' (by rw [h2]; rfl) (by rw [g2]; rfl)
      refine ⟨e, fun x hx => ?_⟩
      rw [h2] at hx
      have hx : x = r := by simpa [nwL] using hx
      rw [hx, e]
      exact ⟨.inl t, h1, g1⟩
    · have e : φ r = r' := hi 0 r r' (by rw [h2]; rfl) (by rw [g2]; rfl)
      refine ⟨e, fun x hx => ?_⟩
      rw [h2] at hx
      have hx : x = r := by simpa [nwL] using hx
      rw [hx, e]
      refine ⟨.inr (.inr q), h1, ?_⟩
      have hq : oks T2 q := hw
      obtain ⟨tb, q1, -⟩ := hq
      show T3 r' = some (.inr (.inr (φ q.1, q.2)))
      rw [hφ q.1 (by rw [q1]; exact fun z => by cases z)]
      exact g1
  | .inner (_ + 1) _ _ l s, 0, _, _, _, _, hw, _, _, _ => hw.elim
  | .inner (_ + 1) _ _ l s, n + 1, r, r', F, F', hw, hr, hr', hi => by
    obtain ⟨a, b, Fa, Fb, h1, h2, h3, h4⟩ := hr
    obtain ⟨a', b', Fa', Fb', g1, g2, g3, g4⟩ := hr'
    have hla := rT_len l a a' Fa Fa' h2 g2
    have e : φ r = r' := hi 0 r r' (by rw [h4]; rfl) (by rw [g4]; rfl)
    obtain ⟨i1, i2⟩ := rT_hom hφ l n a a' Fa Fa' hw.1 h2 g2 (fun i x y hx hy => hi (i + 1) x y (by
      rw [h4, List.getElem?_cons_succ, List.getElem?_append_left (List.getElem?_eq_some_iff.mp hx).1]; exact hx) (by
      rw [g4, List.getElem?_cons_succ, List.getElem?_append_left (List.getElem?_eq_some_iff.mp hy).1]; exact hy))
    obtain ⟨k1, k2⟩ := rT_hom hφ s n b b' Fb Fb' hw.2.1 h3 g3 (fun i x y hx hy => hi (Fa.length + i + 1) x y (by
      rw [h4, List.getElem?_cons_succ, List.getElem?_append_right (by omega), Nat.add_sub_cancel_left]; exact hx) (by
      rw [g4, List.getElem?_cons_succ, hla, List.getElem?_append_right (by omega), Nat.add_sub_cancel_left]; exact hy))
    refine ⟨e, fun x hx => ?_⟩
    rw [h4] at hx
    rcases List.mem_cons.mp hx with rfl | hx
    · refine ⟨_, h1, ?_⟩
      rw [e]
      show T3 r' = some (.inr (.inl (φ a, φ b)))
      rw [i1, k1]; exact g1
    · rcases List.mem_append.mp hx with hx | hx
      · exact i2 x hx
      · exact k2 x hx
theorem hom_tx {T3 T4 : sT} {φ : Nat → Nat} (H : ∀ x v, T4 x = some v → T3 (φ x) = some (mv φ v)) : ∀ (n x : Nat), wf T4 n x → tx T3 n (φ x) = tx T4 n x := by
  have hs : ∀ q, oks T4 q → lfT T3 (φ q.1) = lfT T4 q.1 := fun q hq => by
    obtain ⟨t, h1, -⟩ := hq
    have h2 : T3 (φ q.1) = some (.inl t) := H _ _ h1
    simp only [lfT, h1, h2]
  intro n
  induction n with
  | zero =>
    intro x hw
    rcases wf_cases hw with ⟨t, hc, ht⟩ | ⟨q, hc, hq⟩ | ⟨k, q, hk, -⟩
    · have h2 : T3 (φ x) = some (.inl t) := H _ _ hc
      rw [tx_leaf hc, tx_leaf h2]
    · have h2 : T3 (φ x) = some (.inr (.inr (φ q.1, q.2))) := H _ _ hc
      rw [tx_slice hc, tx_slice h2, hs q hq]
    · cases hk
  | succ n ih =>
    intro x hw
    rcases wf_cases hw with ⟨t, hc, ht⟩ | ⟨q, hc, hq⟩ | ⟨k, q, hk, hc, h1, h2, -⟩
    · have h2 : T3 (φ x) = some (.inl t) := H _ _ hc
      rw [tx_leaf hc, tx_leaf h2]
    · have h2 : T3 (φ x) = some (.inr (.inr (φ q.1, q.2))) := H _ _ hc
      rw [tx_slice hc, tx_slice h2, hs q hq]
    · cases hk
      have h3 : T3 (φ x) = some (.inr (.inl (φ q.1, φ q.2))) := H _ _ hc
      rw [tx_join hc, tx_join h3, ih _ h1, ih _ h2]
theorem RR_ren {T3 T4 : sT} {ι : Nat → Nat} {μ : rf_M} {B B4 sp e : Nat} {φ : Nat → Nat} (h : RR T3 ι μ B sp e) (H : ∀ x v, T4 x = some v → T3 (φ x) = some (mv φ v)) (inj : ∀ a b, T4 a ≠ none → T4 b ≠ none → φ a = φ b → a = b) (hw : ∀ c, T4 c ≠ none → wf T4 13 c) (hB : ∀ c, B4 ≤ c → T4 c = none) : RR T4 (fun x => ι (φ x)) μ B4 sp e := by
  obtain ⟨a1, a2, a3, a4, a5, a6, a7, a8, a9, bs, b1, b2⟩ := h
  have nn : ∀ c, T4 c ≠ none → T3 (φ c) ≠ none := fun c hc => by
    obtain ⟨v, hv⟩ := Option.ne_none_iff_exists'.mp hc
    rw [H c v hv]; exact fun z => by cases z
  refine ⟨fun c v hc => ?_, fun a b ha hb he => inj a b ha hb (a2 _ _ (nn a ha) (nn b hb) he), hw, hB, a5, a6, a7, a8, a9, bs, b1, fun c t hc => b2 (φ c) t (H c _ hc)⟩
  obtain ⟨g1, g2, g3⟩ := a1 (φ c) _ (H c v hc)
  refine ⟨g1, ?_, ?_⟩
  · rcases v with t | q | q
    · exact g2
    · exact g2
    · exact g2
  · rw [g3, hom_tx H 13 c (hw c (by rw [hc]; exact fun z => by cases z))]
theorem le_sum {F : List Nat} {x : Nat} (h : x ∈ F) : x ≤ F.sum := by
  induction F with
  | nil => simp at h
  | cons a F ih =>
    rw [List.sum_cons]
    rcases List.mem_cons.mp h with rfl | h
    · omega
    · have := ih h; omega
section
variable {T : sT} {μ' : rf_M} {sl : List Nat} {im : Nat → Option (List Nat)} {en nu : List Nat} {ev : Nat} {dr : List Int32} {sm dp lo : Nat}
theorem MS_ren {T3 T4 : sT} {ι3 : Nat → Nat} {B3 B4 sp3 e3 j k k3 : Nat} {φ : Nat → Nat} (h : MS T3 ι3 μ' B3 sp3 e3 (sl.set j k3) im en nu ev dr sm dp lo) (H : ∀ x v, T4 x = some v → T3 (φ x) = some (mv φ v)) (inj : ∀ a b, T4 a ≠ none → T4 b ≠ none → φ a = φ b → a = b) (hw : ∀ c, T4 c ≠ none → wf T4 13 c) (hB : ∀ c, B4 ≤ c → T4 c = none) (hk : φ k = k3) (hr : ∀ r ∈ rts sl im en, φ r = r) (hwk : wf T4 12 k) (hwr : ∀ r ∈ rts sl im en, wf T4 12 r) : MS T4 (fun x => ι3 (φ x)) μ' B4 sp3 e3 (sl.set j k) im en nu ev dr sm dp lo := by
  obtain ⟨a1, ⟨⟨o1, o2⟩, o3, c1, c2, c3⟩, a3, a4⟩ := h
  have hm : ∀ L : List Nat, (∀ r ∈ L, r ∈ rts sl im en) → L.map (fun p => nI (ι3 (φ p))) = L.map (fun p => nI (ι3 p)) := fun L hL => List.map_congr_left (fun r hr' => by rw [hr r (hL r hr')])
  refine ⟨RR_ren a1 H inj hw hB, ⟨⟨by rw [List.length_set] at o1 ⊢; exact o1, ?_⟩, fun q hq => ?_, c1, c2, ?_⟩, rts_set hwr hwk, a4⟩
  · rw [List.map_set] at o2 ⊢
    rw [hm sl (fun r hr' => by simp [rts, hr'])]
    dsimp only
    rw [hk]
    exact o2
  · rcases o3 q hq with ⟨b1, b2⟩ | ⟨l', b1, b2, b3, b4⟩
    · exact Or.inl ⟨b1, b2⟩
    · exact Or.inr ⟨l', b1, b2, b3, fun i x hi => by dsimp only; rw [hr x (rts_im hq b1 (List.mem_of_getElem? hi))]; exact b4 i x hi⟩
  · rw [hm en (fun r hr' => by simp [rts, hr'])]; exact c3
/-- the class's new cells and the reference's are one store's -/
theorem both {T2 T' T3 : sT} {ι ι3 : Nat → Nat} {B B3 sp3 e3 j k k3 : Nat} {t : tT} {F F3 : List Nat} (hN : NS T T2 ι B (rts sl im en) t T3 ι3 k3 F3) (hM : MS T3 ι3 μ' B3 sp3 e3 (sl.set j k3) im en nu ev dr sm dp lo) (hC : CN T T' t k F) (hR : ∀ r ∈ rts sl im en, wf T 12 r) : ∃ T4 ι4 B4, (∀ c v, T4 c = some v → T' c = some v) ∧ (∀ c, T4 c ≠ none → wf T4 13 c) ∧ (∀ r ∈ rts (sl.set j k) im en, wf T4 12 r) ∧ MS T4 ι4 μ' B4 sp3 e3 (sl.set j k) im en nu ev dr sm dp lo := by
  obtain ⟨n1, n2, n3, n4, n5, n6, n7, n8, n9⟩ := hN
  obtain ⟨c1, c2, c3, c4, c5⟩ := hC
  have hF2 : ∀ x ∈ F, T2 x = none := fun x hx => by
    cases hv : T2 x with
    | none => rfl
    | some v => have := c5 x hx; rw [n1 x v hv] at this; cases this
  have hlen := rT_len t k k3 F F3 c3 n7
  generalize hφ : (fun x => if x ∈ F then F3.getD (F.idxOf x) 0 else x) = φ
  have φo : ∀ c, c ∉ F → φ c = c := fun c hc => by rw [← hφ]; simp only [if_neg hc]
  have φ2 : ∀ c, T2 c ≠ none → φ c = c := fun c hc => φo c (fun z => hc (hF2 c z))
  have φi : ∀ (i : Nat) (x y : Nat), F[i]? = some x → F3[i]? = some y → φ x = y := fun i x y hx hy => by
    have hxF := List.mem_of_getElem? hx
    obtain ⟨hil, hix⟩ := List.getElem?_eq_some_iff.mp hx
    have hidx : F.idxOf x = i := by
      rw [← hix]
      exact List.Nodup.idxOf_getElem c4 i hil
    rw [← hφ]
    simp only [if_pos hxF]
    rw [hidx, List.getD_eq_getElem?_getD, hy]
    rfl
  obtain ⟨φk, φF⟩ := rT_hom φ2 t 12 k k3 F F3 n5 c3 n7 φi
  generalize hT4 : (fun x => if x ∈ F then T' x else T2 x) = T4
  have t4F : ∀ x ∈ F, T4 x = T' x := fun x hx => by rw [← hT4]; simp only [if_pos hx]
  have t4o : ∀ x, x ∉ F → T4 x = T2 x := fun x hx => by rw [← hT4]; simp only [if_neg hx]
  have x24 : ∀ c v, T2 c = some v → T4 c = some v := fun c v hc => by rw [t4o c (fun z => by have := hF2 c z; rw [hc] at this; cases this)]; exact hc
  have x4' : ∀ c v, T4 c = some v → T' c = some v := fun c v hc => by
    by_cases hcF : c ∈ F
    · rw [t4F c hcF] at hc; exact hc
    · rw [t4o c hcF] at hc; exact c1 c v (n1 c v hc)
  have rt4 : rT T4 t k F := rT_on t k F t4F c3
  have wF := rT_wf x24 t 12 k F (Nat.le_refl _) n5 rt4
  have hw4 : ∀ c, T4 c ≠ none → wf T4 13 c := fun c hc => by
    by_cases hcF : c ∈ F
    · exact (wf_up 12 c (wF c hcF)).1
    · rw [t4o c hcF] at hc
      exact (ext_wf x24 13 c (n3 c hc)).1
  have H : ∀ x v, T4 x = some v → T3 (φ x) = some (mv φ v) := fun x v hx => by
    by_cases hxF : x ∈ F
    · rw [t4F x hxF] at hx
      obtain ⟨v', h1, h2⟩ := φF x hxF
      rw [hx] at h1
      cases h1
      exact h2
    · rw [t4o x hxF] at hx
      rw [φo x hxF, n6.1 x v hx]
      have hwx := n3 x (by rw [hx]; exact fun z => by cases z)
      rcases v with u | q | q
      · rfl
      · obtain ⟨w1, w2, -⟩ := (wf_join hx).mp hwx
        show some (Sum.inr (Sum.inl q)) = some (Sum.inr (Sum.inl (φ q.1, φ q.2)))
        rw [φ2 q.1 (wf_nn w1), φ2 q.2 (wf_nn w2)]
      · obtain ⟨tb, q1, -⟩ := (wf_slice hx).mp hwx
        show some (Sum.inr (Sum.inr q)) = some (Sum.inr (Sum.inr (φ q.1, q.2)))
        rw [φ2 q.1 (by rw [q1]; exact fun z => by cases z)]
  have φF3 : ∀ x ∈ F, φ x ∈ F3 := fun x hx => by
    obtain ⟨i, hi⟩ := List.mem_iff_getElem?.mp hx
    have hil := (List.getElem?_eq_some_iff.mp hi).1
    have hy : F3[i]? = some F3[i] := List.getElem?_eq_getElem (by omega)
    rw [φi i x _ hi hy]
    exact List.getElem_mem _
  have inj : ∀ a b, T4 a ≠ none → T4 b ≠ none → φ a = φ b → a = b := fun a b ha hb he => by
    by_cases haF : a ∈ F
    · by_cases hbF : b ∈ F
      · obtain ⟨i, hi⟩ := List.mem_iff_getElem?.mp haF
        obtain ⟨i', hi'⟩ := List.mem_iff_getElem?.mp hbF
        have hil := (List.getElem?_eq_some_iff.mp hi).1
        have hil' := (List.getElem?_eq_some_iff.mp hi').1
        have hy : F3[i]? = some F3[i] := List.getElem?_eq_getElem (by omega)
        have hy' : F3[i']? = some F3[i'] := List.getElem?_eq_getElem (by omega)
        rw [φi i a _ hi hy, φi i' b _ hi' hy'] at he
        have : i = i' := (List.getElem_inj n8).mp he
        subst this
        rw [hi] at hi'
        cases hi'
        rfl
      · have h1 := n9 _ (φF3 a haF)
        rw [he, φo b hbF] at h1
        rw [t4o b hbF] at hb
        exact absurd (n4 b h1) hb
    · by_cases hbF : b ∈ F
      · have h1 := n9 _ (φF3 b hbF)
        rw [← he, φo a haF] at h1
        rw [t4o a haF] at ha
        exact absurd (n4 a h1) ha
      · rw [φo a haF, φo b hbF] at he
        exact he
  have hwk : wf T4 12 k := (rT_ok x24 t 12 k F (Nat.le_refl _) n5 rt4).1
  have hwr : ∀ r ∈ rts sl im en, wf T4 12 r := fun r hr => (ext_wf x24 12 r (ext_12 n1 (n3 r (n2 r hr)) (hR r hr))).1
  have hB4 : ∀ c, B + F.sum + 1 ≤ c → T4 c = none := fun c hc => by
    by_cases hcF : c ∈ F
    · have := le_sum hcF; omega
    · rw [t4o c hcF]; exact n4 c (by omega)
  exact ⟨T4, _, _, x4', hw4, rts_set hwr hwk, MS_ren hM H inj hw4 hB4 φk (fun r hr => φ2 r (n2 r hr)) hwk hwr⟩
/-! trees over a smaller store -/
theorem tree_ext {T2 : sT} (h : ∀ c v, T2 c = some v → T c = some v) : ∀ (t : tT) (n : Nat), n ≤ 12 → tw T2 n t → ttx T t = ttx T2 t ∧ tdp T t = tdp T2 t ∧ tps T t = tps T2 t ∧ tw T n t
  | .leaf, n, _, hw => by cases n <;> exact hw.elim
  | .inner 0 y _ _ _, n, hn, hw => by
    have hw : lbw T2 n y := by cases n <;> exact hw
    have goal : lbt T y = lbt T2 y ∧ lbd T y = lbd T2 y ∧ lbp T y = lbp T2 y ∧ lbw T n y := by
      rcases y with c | t | q
      · have hw : wf T2 n c := hw
        obtain ⟨e1, e2, e3, e4, -⟩ := ext_wf h n c hw
        obtain ⟨f1, f2, f3, f4, -⟩ := wf_le hn hw
        obtain ⟨g1, g2, g3, g4, -⟩ := wf_le hn e1
        refine ⟨?_, ?_, ?_, e1⟩
        · show tx T 12 c = tx T2 12 c
          rw [g2, e2, f2]
        · show dep T 12 c = dep T2 12 c
          rw [g4, e4, f4]
        · show (pcs T 12 c).map Sum.inl = (pcs T2 12 c).map Sum.inl
          rw [g3, e3, f3]
      · exact ⟨rfl, rfl, rfl, hw⟩
      · have hw : oks T2 q := hw
        obtain ⟨e1, e2⟩ := ext_oks h hw
        refine ⟨?_, rfl, rfl, e1⟩
        show ((lfT T q.1).drop q.2.1).take q.2.2 = ((lfT T2 q.1).drop q.2.1).take q.2.2
        rw [e2]
    refine ⟨goal.1, goal.2.1, goal.2.2.1, ?_⟩
    cases n <;> exact goal.2.2.2
  | .inner (_ + 1) _ _ l s, 0, _, hw => hw.elim
  | .inner (_ + 1) _ _ l s, n + 1, hn, hw => by
    obtain ⟨w1, w2, w3, w4, w5⟩ := hw
    obtain ⟨a1, a2, a3, a4⟩ := tree_ext h l n (by omega) w1
    obtain ⟨b1, b2, b3, b4⟩ := tree_ext h s n (by omega) w2
    refine ⟨?_, ?_, ?_, a4, b4, by rw [a1]; exact w3, by rw [b1]; exact w4, by rw [a1, b1]; exact w5⟩
    · show ttx T l ++ ttx T s = ttx T2 l ++ ttx T2 s
      rw [a1, b1]
    · show 1 + max (tdp T l) (tdp T s) = 1 + max (tdp T2 l) (tdp T2 s)
      rw [a2, b2]
    · show tps T l ++ tps T s = tps T2 l ++ tps T2 s
      rw [a3, b3]
theorem joinT_ext {T2 : sT} (h : ∀ c v, T2 c = some v → T c = some v) {a b : tT} (ha : tw T2 12 a) (hb : tw T2 12 b) : joinT T sm dp a b = joinT T2 sm dp a b := by
  obtain ⟨a1, a2, a3, -⟩ := tree_ext h a 12 (Nat.le_refl _) ha
  obtain ⟨b1, b2, b3, -⟩ := tree_ext h b 12 (Nat.le_refl _) hb
  unfold joinT
  rw [a1, a2, a3, b1, b2, b3]
theorem cutT_ext {T2 : sT} (h : ∀ c v, T2 c = some v → T c = some v) (hdp : dp ≤ 12) (hlo : 1 ≤ lo ∧ lo ≤ 8) : ∀ (n c f m : Nat), n ≤ 12 → wf T2 n c → f + m ≤ (tx T2 n c).length → cutT T sm dp lo n c f m = cutT T2 sm dp lo n c f m := by
  intro n
  induction n with
  | zero =>
    intro c f m hn hw hfm
    obtain ⟨e1, e2, -⟩ := ext_wf h 0 c hw
    by_cases h0 : m = 0
    · subst h0; rw [cutT_0, cutT_0]
    by_cases h1 : m = (tx T2 0 c).length
    · subst h1
      rw [cutT_all h0, ← e2, cutT_all (by rw [e2]; exact h0)]
    have h1' : ¬ m = (tx T 0 c).length := by rw [e2]; exact h1
    rcases wf_cases hw with ⟨t, hc, ht⟩ | ⟨q, hc, hq⟩ | ⟨k, q, hk, -⟩
    · rw [cutT_leaf hc h0 h1, cutT_leaf (h _ _ hc) h0 h1']
    · rw [cutT_slice hc h0 h1, cutT_slice (h _ _ hc) h0 h1', (ext_oks h hq).2]
    · cases hk
  | succ n ih =>
    intro c f m hn hw hfm
    obtain ⟨e1, e2, -⟩ := ext_wf h (n + 1) c hw
    by_cases h0 : m = 0
    · subst h0; rw [cutT_0, cutT_0]
    by_cases h1 : m = (tx T2 (n + 1) c).length
    · subst h1
      rw [cutT_all h0, ← e2, cutT_all (by rw [e2]; exact h0)]
    have h1' : ¬ m = (tx T (n + 1) c).length := by rw [e2]; exact h1
    rcases wf_cases hw with ⟨t, hc, ht⟩ | ⟨q, hc, hq⟩ | ⟨k, q, hk, hc, g1, g2, g3, g4, g5⟩
    · rw [cutT_leaf hc h0 h1, cutT_leaf (h _ _ hc) h0 h1']
    · rw [cutT_slice hc h0 h1, cutT_slice (h _ _ hc) h0 h1', (ext_oks h hq).2]
    · cases hk
      have el : tx T n q.1 = tx T2 n q.1 := (ext_wf h n q.1 g1).2.1
      rw [cutT_join hc h0 h1, cutT_join (h _ _ hc) h0 h1', el]
      rw [tx_join hc, List.length_append] at hfm
      split
      · rename_i hl
        exact ih q.1 f m (by omega) g1 hl
      · split
        · rename_i hl1 hl2
          exact ih q.2 (f - (tx T2 n q.1).length) m (by omega) g2 (by omega)
        · rename_i hl1 hl2
          rw [ih q.1 f ((tx T2 n q.1).length - f) (by omega) g1 (by omega), ih q.2 0 (f + m - (tx T2 n q.1).length) (by omega) g2 (by omega)]
          exact joinT_ext h (cutT_ok hdp hlo n q.1 f ((tx T2 n q.1).length - f) (by omega) g1 (by omega)).1 (cutT_ok hdp hlo n q.2 0 (f + m - (tx T2 n q.1).length) (by omega) g2 (by omega)).1
theorem flT_sub {T2 : sT} (h : ∀ c v, T2 c = some v → T c = some v) {c : Nat} (hw : wf T2 13 c) : ∀ x v, flT T2 c x = some v → flT T c x = some v := fun x v hx => by
  by_cases hxc : x = c
  · subst hxc
    rw [flT_s] at hx ⊢
    rw [(ext_wf h 13 x hw).2.1]; exact hx
  · rw [flT_n hxc] at hx ⊢
    exact h x v hx
end
