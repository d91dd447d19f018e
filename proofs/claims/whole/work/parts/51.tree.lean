/-! ===== trees: what a join or a cut makes, over cells that are there ===== -/
/-- a tree's leaf: a cell that is there; a new leaf; a new slice -/
abbrev tL : Type := Nat ⊕ List Int32 ⊕ (Nat × Nat × Nat)
abbrev tT : Type := Std.DTreeMap.Internal.Impl tL (fun _ => Unit)
def tl (x : tL) : tT := .inner 0 x () .leaf .leaf
def tj (l r : tT) : tT := .inner 1 (.inl 0) () l r
def lbt (T : sT) (x : tL) : List Int32 := match x with
  | .inl c => tx T 12 c
  | .inr (.inl t) => t
  | .inr (.inr q) => ((lfT T q.1).drop q.2.1).take q.2.2
def lbp (T : sT) (x : tL) : List tL := match x with
  | .inl c => (pcs T 12 c).map .inl
  | .inr y => [.inr y]
def lbd (T : sT) (x : tL) : Nat := match x with
  | .inl c => dep T 12 c
  | .inr _ => 0
def lbw (T : sT) (n : Nat) (x : tL) : Prop := match x with
  | .inl c => wf T n c
  | .inr (.inl t) => okt t
  | .inr (.inr q) => oks T q
def ttx (T : sT) : tT → List Int32
  | .leaf => []
  | .inner 0 x _ _ _ => lbt T x
  | .inner (_ + 1) _ _ l r => ttx T l ++ ttx T r
def tps (T : sT) : tT → List tL
  | .leaf => []
  | .inner 0 x _ _ _ => lbp T x
  | .inner (_ + 1) _ _ l r => tps T l ++ tps T r
def tdp (T : sT) : tT → Nat
  | .leaf => 0
  | .inner 0 x _ _ _ => lbd T x
  | .inner (_ + 1) _ _ l r => 1 + max (tdp T l) (tdp T r)
def tw (T : sT) : Nat → tT → Prop
  | _, .leaf => False
  | n, .inner 0 x _ _ _ => lbw T n x
  | 0, .inner (_ + 1) _ _ _ _ => False
  | n + 1, .inner (_ + 1) _ _ l r => tw T n l ∧ tw T n r ∧ ttx T l ≠ [] ∧ ttx T r ≠ [] ∧ (ttx T l).length + (ttx T r).length ≤ 120
/-- how a label lies in a store -/
def rL (T' : sT) (x : tL) (i : Nat) : Prop := match x with
  | .inl c => i = c
  | .inr (.inl t) => T' i = some (.inl t)
  | .inr (.inr q) => T' i = some (.inr (.inr q))
def nwL (x : tL) (i : Nat) : List Nat := match x with
  | .inl _ => []
  | .inr _ => [i]
/-- how a tree lies in a store: its root, its new cells -/
def rT (T' : sT) : tT → Nat → List Nat → Prop
  | .leaf, _, _ => False
  | .inner 0 x _ _ _, r, F => rL T' x r ∧ F = nwL x r
  | .inner (_ + 1) _ _ l s, r, F => ∃ a b Fa Fb, T' r = some (.inr (.inl (a, b))) ∧ rT T' l a Fa ∧ rT T' s b Fb ∧ F = r :: (Fa ++ Fb)
/-- a row of labels, a row of cells -/
def LbR (T' : sT) (L : List tL) (P : List Nat) : Prop := L.length = P.length ∧ ∀ (j : Nat) (x : tL) (i : Nat), L[j]? = some x → P[j]? = some i → rL T' x i
theorem LbR_nil (T' : sT) : LbR T' [] [] := ⟨rfl, fun j x i h => by simp at h⟩
theorem LbR_app {T' : sT} {L1 L2 : List tL} {P1 P2 : List Nat} (h1 : LbR T' L1 P1) (h2 : LbR T' L2 P2) : LbR T' (L1 ++ L2) (P1 ++ P2) := by
  refine ⟨by rw [List.length_append, List.length_append, h1.1, h2.1], fun j x i hx hi => ?_⟩
  by_cases hj : j < L1.length
  · rw [List.getElem?_append_left hj] at hx
    rw [List.getElem?_append_left (by rw [← h1.1]; exact hj)] at hi
    exact h1.2 j x i hx hi
  · rw [List.getElem?_append_right (by omega)] at hx
    rw [List.getElem?_append_right (by rw [← h1.1]; omega)] at hi
    rw [← h1.1] at hi
    exact h2.2 _ x i hx hi
theorem LbR_take {T' : sT} {L : List tL} {P : List Nat} (h : LbR T' L P) (k : Nat) : LbR T' (L.take k) (P.take k) := by
  refine ⟨by rw [List.length_take, List.length_take, h.1], fun j x i hx hi => ?_⟩
  rw [List.getElem?_take] at hx hi
  split at hx
  · rename_i hj
    rw [if_pos hj] at hi
    exact h.2 j x i hx hi
  · cases hx
theorem LbR_drop {T' : sT} {L : List tL} {P : List Nat} (h : LbR T' L P) (k : Nat) : LbR T' (L.drop k) (P.drop k) := by
  refine ⟨by rw [List.length_drop, List.length_drop, h.1], fun j x i hx hi => ?_⟩
  rw [List.getElem?_drop] at hx hi
  exact h.2 _ x i hx hi
theorem LbR_olds (T' : sT) (l : List Nat) : LbR T' (l.map .inl) l := by
  refine ⟨by simp, fun j x i hx hi => ?_⟩
  rw [List.getElem?_map, hi] at hx
  cases hx
  rfl
theorem rL_ext {T T' : sT} (h : ∀ c v, T c = some v → T' c = some v) {x : tL} {i : Nat} (hx : rL T x i) : rL T' x i := by
  rcases x with c | t | q
  · exact hx
  · exact h _ _ hx
  · exact h _ _ hx
theorem LbR_ext {T T' : sT} (h : ∀ c v, T c = some v → T' c = some v) {L : List tL} {P : List Nat} (hx : LbR T L P) : LbR T' L P := ⟨hx.1, fun j x i h1 h2 => rL_ext h (hx.2 j x i h1 h2)⟩
theorem rT_ext {T T' : sT} (h : ∀ c v, T c = some v → T' c = some v) : ∀ (t : tT) (r : Nat) (F : List Nat), rT T t r F → rT T' t r F
  | .leaf, _, _, hx => hx
  | .inner 0 _ _ _ _, _, _, hx => ⟨rL_ext h hx.1, hx.2⟩
  | .inner (_ + 1) _ _ l s, r, F, hx => by
    obtain ⟨a, b, Fa, Fb, h1, h2, h3, h4⟩ := hx
    exact ⟨a, b, Fa, Fb, h _ _ h1, rT_ext h l a Fa h2, rT_ext h s b Fb h3, h4⟩
/-- a larger store: what was there is as it was -/
theorem ext_oks {T T' : sT} (h : ∀ c v, T c = some v → T' c = some v) {q : Nat × Nat × Nat} (hq : oks T q) : oks T' q ∧ lfT T' q.1 = lfT T q.1 := by
  obtain ⟨t, h1, h2⟩ := hq
  exact ⟨⟨t, h _ _ h1, h2⟩, by simp only [lfT, h1, h _ _ h1]⟩
theorem ext_wf {T T' : sT} (h : ∀ c v, T c = some v → T' c = some v) : ∀ (n c : Nat), wf T n c → wf T' n c ∧ tx T' n c = tx T n c ∧ pcs T' n c = pcs T n c ∧ dep T' n c = dep T n c ∧ rl T' n c = rl T n c := by
  intro n
  induction n with
  | zero =>
    intro c hw
    rcases wf_cases hw with ⟨t, hc, ht⟩ | ⟨q, hc, hq⟩ | ⟨k, q, hk, -⟩
    · have hc' := h _ _ hc
      exact ⟨(wf_leaf hc').mpr ht, by rw [tx_leaf hc', tx_leaf hc], by rw [pcs_leaf hc', pcs_leaf hc], by rw [dep_leaf hc', dep_leaf hc], by rw [rl_leaf hc', rl_leaf hc]⟩
    · have hc' := h _ _ hc
      obtain ⟨q1, q2⟩ := ext_oks h hq
      exact ⟨(wf_slice hc').mpr q1, by rw [tx_slice hc', tx_slice hc, q2], by rw [pcs_slice hc', pcs_slice hc], by rw [dep_slice hc', dep_slice hc], by rw [rl_slice hc', rl_slice hc]⟩
    · cases hk
  | succ n ih =>
    intro c hw
    rcases wf_cases hw with ⟨t, hc, ht⟩ | ⟨q, hc, hq⟩ | ⟨k, q, hk, hc, h1, h2, h3, h4, h5⟩
    · have hc' := h _ _ hc
      exact ⟨(wf_leaf hc').mpr ht, by rw [tx_leaf hc', tx_leaf hc], by rw [pcs_leaf hc', pcs_leaf hc], by rw [dep_leaf hc', dep_leaf hc], by rw [rl_leaf hc', rl_leaf hc]⟩
    · have hc' := h _ _ hc
      obtain ⟨q1, q2⟩ := ext_oks h hq
      exact ⟨(wf_slice hc').mpr q1, by rw [tx_slice hc', tx_slice hc, q2], by rw [pcs_slice hc', pcs_slice hc], by rw [dep_slice hc', dep_slice hc], by rw [rl_slice hc', rl_slice hc]⟩
    · cases hk
      have hc' := h _ _ hc
      obtain ⟨a1, a2, a3, a4, a5⟩ := ih _ h1
      obtain ⟨b1, b2, b3, b4, b5⟩ := ih _ h2
      exact ⟨(wf_join hc').mpr ⟨a1, b1, by rw [a2]; exact h3, by rw [b2]; exact h4, by rw [a2, b2]; exact h5⟩, by rw [tx_join hc', tx_join hc, a2, b2], by rw [pcs_join hc', pcs_join hc, a3, b3], by rw [dep_join hc', dep_join hc, a4, b4], by rw [rl_join hc', rl_join hc, a5, b5]⟩
/-- a tree that lies in a store reads as it should -/
theorem rT_ok {T T' : sT} (h : ∀ c v, T c = some v → T' c = some v) : ∀ (t : tT) (n r : Nat) (F : List Nat), n ≤ 12 → tw T n t → rT T' t r F → wf T' n r ∧ tx T' n r = ttx T t ∧ dep T' n r = tdp T t ∧ LbR T' (tps T t) (pcs T' n r)
  | .leaf, n, _, _, _, hw, _ => by cases n <;> exact hw.elim
  | .inner 0 x _ _ _, n, r, F, hn, hw, hr => by
    have hw : lbw T n x := by cases n <;> exact hw
    obtain ⟨h1, h2⟩ := hr
    rcases x with c | t | q
    · cases h1
      obtain ⟨a1, a2, a3, a4, a5⟩ := ext_wf h n r hw
      obtain ⟨b1, b2, b3, b4, b5⟩ := wf_le hn hw
      refine ⟨a1, ?_, ?_, ?_⟩
      · show tx T' n r = tx T 12 r
        rw [a2, b2]
      · show dep T' n r = dep T 12 r
        rw [a4, b4]
      · show LbR T' ((pcs T 12 r).map .inl) (pcs T' n r)
        rw [a3, ← b3]
        exact LbR_olds _ _
    · have h1 : T' r = some (.inl t) := h1
      refine ⟨(wf_leaf h1).mpr hw, tx_leaf h1, dep_leaf h1, ?_⟩
      rw [pcs_leaf h1]
      refine ⟨rfl, fun j x i hx hi => ?_⟩
      have hj : j < 1 := (List.getElem?_eq_some_iff.mp hi).1
      have : j = 0 := by omega
      subst this
      cases hx; cases hi
      exact h1
    · have h1 : T' r = some (.inr (.inr q)) := h1
      obtain ⟨q1, q2⟩ := ext_oks h hw
      refine ⟨(wf_slice h1).mpr q1, ?_, dep_slice h1, ?_⟩
      · rw [tx_slice h1, q2]; rfl
      · rw [pcs_slice h1]
        refine ⟨rfl, fun j x i hx hi => ?_⟩
        have hj : j < 1 := (List.getElem?_eq_some_iff.mp hi).1
        have : j = 0 := by omega
        subst this
        cases hx; cases hi
        exact h1
  | .inner (_ + 1) _ _ l s, 0, r, F, hn, hw, hr => hw.elim
  | .inner (_ + 1) _ _ l s, n + 1, r, F, hn, hw, hr => by
    obtain ⟨w1, w2, w3, w4, w5⟩ := hw
    obtain ⟨a, b, Fa, Fb, h1, h2, h3, h4⟩ := hr
    obtain ⟨a1, a2, a3, a4⟩ := rT_ok h l n a Fa (by omega) w1 h2
    obtain ⟨b1, b2, b3, b4⟩ := rT_ok h s n b Fb (by omega) w2 h3
    refine ⟨(wf_join h1).mpr ⟨a1, b1, by rw [a2]; exact w3, by rw [b2]; exact w4, by rw [a2, b2]; exact w5⟩, ?_, ?_, ?_⟩
    · rw [tx_join h1, a2, b2]; rfl
    · rw [dep_join h1, a3, b3]; rfl
    · rw [pcs_join h1]
      exact LbR_app a4 b4
/-! less depth, a smaller number -/
theorem wf_low {T : sT} : ∀ (n m c : Nat), wf T n c → dep T n c ≤ m → wf T m c := by
  intro n
  induction n with
  | zero => intro m c h _; exact (wf_le (Nat.zero_le m) h).1
  | succ n ih =>
    intro m c h hd
    rcases wf_cases h with ⟨t, hc, ht⟩ | ⟨q, hc, hq⟩ | ⟨k, q, hk, hc, h1, h2, h3, h4, h5⟩
    · exact (wf_leaf hc).mpr ht
    · exact (wf_slice hc).mpr hq
    · cases hk
      rw [dep_join hc] at hd
      cases m with
      | zero => omega
      | succ m =>
        have w1 := ih m _ h1 (by omega)
        have w2 := ih m _ h2 (by omega)
        have e1 : tx T m q.1 = tx T n q.1 := by
          rcases Nat.le_total m n with hmn | hmn
          · exact (wf_le hmn w1).2.1.symm
          · exact (wf_le hmn h1).2.1
        have e2 : tx T m q.2 = tx T n q.2 := by
          rcases Nat.le_total m n with hmn | hmn
          · exact (wf_le hmn w2).2.1.symm
          · exact (wf_le hmn h2).2.1
        exact (wf_join hc).mpr ⟨w1, w2, by rw [e1]; exact h3, by rw [e2]; exact h4, by rw [e1, e2]; exact h5⟩
theorem tw_low {T : sT} : ∀ (t : tT) (n m : Nat), n ≤ 12 → tw T n t → tdp T t ≤ m → tw T m t
  | .leaf, n, _, _, hw, _ => by cases n <;> exact hw.elim
  | .inner 0 x _ _ _, n, m, hn, hw, hd => by
    have hw : lbw T n x := by cases n <;> exact hw
    have : lbw T m x := by
      rcases x with c | t | q
      · have hd : dep T 12 c ≤ m := hd
        have hw : wf T n c := hw
        rw [(wf_le hn hw).2.2.2.1] at hd
        exact wf_low n m c hw hd
      · exact hw
      · exact hw
    cases m <;> exact this
  | .inner (_ + 1) _ _ l s, 0, _, _, hw, _ => hw.elim
  | .inner (_ + 1) _ _ l s, n + 1, m, hn, hw, hd => by
    obtain ⟨w1, w2, w3, w4, w5⟩ := hw
    have hd : 1 + max (tdp T l) (tdp T s) ≤ m := hd
    cases m with
    | zero => omega
    | succ m => exact ⟨tw_low l n m (by omega) w1 (by omega), tw_low s n m (by omega) w2 (by omega), w3, w4, w5⟩
theorem tw_up {T : sT} : ∀ (t : tT) (n : Nat), tw T n t → tw T (n + 1) t
  | .leaf, n, hw => by cases n <;> exact hw.elim
  | .inner 0 x _ _ _, n, hw => by
    have hw : lbw T n x := by cases n <;> exact hw
    show lbw T (n + 1) x
    rcases x with c | t | q
    · exact (wf_up n c hw).1
    · exact hw
    · exact hw
  | .inner (_ + 1) _ _ l s, 0, hw => hw.elim
  | .inner (_ + 1) _ _ l s, n + 1, hw => ⟨tw_up l n hw.1, tw_up s n hw.2.1, hw.2.2⟩
theorem tw_le {T : sT} {t : tT} {n m : Nat} (h : n ≤ m) (hw : tw T n t) : tw T m t := by
  induction h with
  | refl => exact hw
  | step _ ih => exact tw_up t _ ih
theorem tw_okt {T : sT} : ∀ (t : tT) (n : Nat), n ≤ 12 → tw T n t → okt (ttx T t)
  | .leaf, n, _, hw => by cases n <;> exact hw.elim
  | .inner 0 x _ _ _, n, hn, hw => by
    have hw : lbw T n x := by cases n <;> exact hw
    rcases x with c | t | q
    · show okt (tx T 12 c)
      rw [(wf_le hn hw).2.1]
      exact wf_okt n c hw
    · exact hw
    · exact oks_okt hw
  | .inner (_ + 1) _ _ l s, 0, _, hw => hw.elim
  | .inner (_ + 1) _ _ l s, n + 1, hn, hw => by
    obtain ⟨w1, w2, w3, w4, w5⟩ := hw
    refine ⟨?_, fun x hx => ?_⟩
    · show (ttx T l ++ ttx T s).length ≤ 120
      rw [List.length_append]; exact w5
    · have hx : x ∈ ttx T l ++ ttx T s := hx
      rcases List.mem_append.mp hx with h | h
      · exact (tw_okt l n (by omega) w1).2 x h
      · exact (tw_okt s n (by omega) w2).2 x h
theorem tw_tdp {T : sT} : ∀ (t : tT) (n : Nat), n ≤ 12 → tw T n t → tdp T t ≤ n
  | .leaf, n, _, hw => by cases n <;> exact hw.elim
  | .inner 0 x _ _ _, n, hn, hw => by
    have hw : lbw T n x := by cases n <;> exact hw
    rcases x with c | t | q
    · show dep T 12 c ≤ n
      rw [(wf_le hn hw).2.2.2.1]
      exact wf_dep n c
    · exact Nat.zero_le _
    · exact Nat.zero_le _
  | .inner (_ + 1) _ _ l s, 0, _, hw => hw.elim
  | .inner (_ + 1) _ _ l s, n + 1, hn, hw => by
    have h1 := tw_tdp l n (by omega) hw.1
    have h2 := tw_tdp s n (by omega) hw.2.1
    show 1 + max (tdp T l) (tdp T s) ≤ n + 1
    omega
/-! balanced; joined; cut -/
def bal : Nat → List tL → tT
  | 0, L => (match L with
    | [] => .leaf
    | x :: _ => tl x)
  | n + 1, L => if L.length < 2 then (match L with
    | [] => .leaf
    | x :: _ => tl x) else tj (bal n (L.take (L.length / 2))) (bal n (L.drop (L.length / 2)))
def joinT (T : sT) (sm dp : Nat) (a b : tT) : tT :=
  if ttx T b = [] then a else if ttx T a = [] then b else
  if (ttx T a).length + (ttx T b).length ≤ sm then tl (.inr (.inl (ttx T a ++ ttx T b))) else
  if 1 + max (tdp T a) (tdp T b) ≤ dp then tj a b else bal 7 (tps T a ++ tps T b)
def cutL (t : List Int32) (lo b f m : Nat) : tT := if m * lo < t.length then tl (.inr (.inl ((t.drop f).take m))) else tl (.inr (.inr (b, f, m)))
def cutT (T : sT) (sm dp lo : Nat) : Nat → Nat → Nat → Nat → tT
  | n, c, f, m => if m = 0 then tl (.inr (.inl [])) else if m = (tx T n c).length then tl (.inl c) else
    (match T c with
    | some (.inl t) => cutL t lo c f m
    | some (.inr (.inr q)) => cutL (lfT T q.1) lo q.1 (q.2.1 + f) m
    | some (.inr (.inl q)) => (match n with
      | 0 => .leaf
      | k + 1 => if f + m ≤ (tx T k q.1).length then cutT T sm dp lo k q.1 f m
        else if (tx T k q.1).length ≤ f then cutT T sm dp lo k q.2 (f - (tx T k q.1).length) m
        else joinT T sm dp (cutT T sm dp lo k q.1 f ((tx T k q.1).length - f)) (cutT T sm dp lo k q.2 0 (f + m - (tx T k q.1).length)))
    | none => .leaf)
/-- labels of pieces: cells that are pieces, new leaves and slices; none is empty -/
def okL (T : sT) (x : tL) : Prop := (match x with
  | .inl c => isPc T c
  | .inr (.inl t) => okt t
  | .inr (.inr q) => oks T q) ∧ lbt T x ≠ []
theorem okL_w {T : sT} {x : tL} (h : okL T x) (n : Nat) : tw T n (tl x) := by
  have : lbw T n x := by
    rcases x with c | t | q
    · exact isPc_wf h.1
    · exact h.1
    · exact h.1
  cases n <;> exact this
theorem fm_congr {α β : Type} {f g : α → List β} : ∀ (l : List α), (∀ p ∈ l, f p = g p) → l.flatMap f = l.flatMap g
  | [], _ => rfl
  | a :: l, h => by rw [List.flatMap_cons, List.flatMap_cons, h a List.mem_cons_self, fm_congr l (fun p hp => h p (List.mem_cons_of_mem _ hp))]
theorem tps_okL {T : sT} : ∀ (t : tT) (n : Nat), n ≤ 12 → tw T n t → ttx T t ≠ [] → (∀ x ∈ tps T t, okL T x) ∧ (tps T t).flatMap (lbt T) = ttx T t ∧ 0 < (tps T t).length
  | .leaf, n, _, hw, _ => by cases n <;> exact hw.elim
  | .inner 0 x _ _ _, n, hn, hw, hne => by
    have hw : lbw T n x := by cases n <;> exact hw
    rcases x with c | t | q
    · have hw : wf T n c := hw
      have hw12 := (wf_le hn hw).1
      have hne : tx T 12 c ≠ [] := hne
      refine ⟨fun x hx => ?_, ?_, ?_⟩
      · have hx : x ∈ (pcs T 12 c).map Sum.inl := hx
        obtain ⟨p, hp, rfl⟩ := List.mem_map.mp hx
        have hpc := pcs_isPc 12 c hw12 p hp
        refine ⟨hpc, ?_⟩
        show tx T 12 p ≠ []
        rw [(wf_le (Nat.zero_le 12) (isPc_wf (n := 0) hpc)).2.1]
        intro hz
        -- a piece without signs: then the cell is that piece alone
        have key : ∀ (n c : Nat), wf T n c → tx T n c ≠ [] → ∀ p ∈ pcs T n c, tx T 0 p ≠ [] := by
          intro n
          induction n with
          | zero => intro c _ h0 p hp; simp only [pcs, List.mem_singleton] at hp; rw [hp]; exact h0
          | succ n ih =>
            intro c hw h0 p hp
            rcases wf_cases hw with ⟨t, hc, ht⟩ | ⟨q, hc, hq⟩ | ⟨k, q, hk, hc, h1, h2, h3, h4, h5⟩
            · rw [pcs_leaf hc, List.mem_singleton] at hp; rw [hp, tx_leaf hc]; rw [tx_leaf hc] at h0; exact h0
            · rw [pcs_slice hc, List.mem_singleton] at hp; rw [hp, tx_slice hc]; rw [tx_slice hc] at h0; exact h0
            · cases hk
              rw [pcs_join hc] at hp
              rcases List.mem_append.mp hp with h | h
              · exact ih _ h1 h3 p h
              · exact ih _ h2 h4 p h
        exact key 12 c hw12 hne p hp hz
      · show ((pcs T 12 c).map Sum.inl).flatMap (lbt T) = tx T 12 c
        rw [tx_pcs 12 c hw12, List.flatMap_map]
        refine (fm_congr _ (fun p hp => ?_)).symm
        show tx T 0 p = tx T 12 p
        exact ((wf_le (Nat.zero_le 12) (isPc_wf (n := 0) (pcs_isPc 12 c hw12 p hp))).2.1).symm
      · show 0 < ((pcs T 12 c).map Sum.inl).length
        rw [List.length_map]; exact pcs_pos 12 c
    · refine ⟨fun x hx => ?_, ?_, ?_⟩
      · cases List.mem_singleton.mp (show x ∈ [Sum.inr (Sum.inl t)] from hx); exact ⟨hw, hne⟩
      · show [Sum.inr (Sum.inl t)].flatMap (lbt T) = t
        simp [lbt]
      · exact Nat.one_pos
    · refine ⟨fun x hx => ?_, ?_, ?_⟩
      · cases List.mem_singleton.mp (show x ∈ [Sum.inr (Sum.inr q)] from hx); exact ⟨hw, hne⟩
      · show [Sum.inr (Sum.inr q)].flatMap (lbt T) = _
        simp [lbt, ttx]
      · exact Nat.one_pos
  | .inner (_ + 1) _ _ l s, 0, _, hw, _ => hw.elim
  | .inner (_ + 1) _ _ l s, n + 1, hn, hw, hne => by
    obtain ⟨w1, w2, w3, w4, w5⟩ := hw
    obtain ⟨a1, a2, a3⟩ := tps_okL l n (by omega) w1 w3
    obtain ⟨b1, b2, b3⟩ := tps_okL s n (by omega) w2 w4
    refine ⟨fun x hx => ?_, ?_, ?_⟩
    · rcases List.mem_append.mp (show x ∈ tps T l ++ tps T s from hx) with h | h
      · exact a1 x h
      · exact b1 x h
    · show (tps T l ++ tps T s).flatMap (lbt T) = ttx T l ++ ttx T s
      rw [List.flatMap_append, a2, b2]
    · show 0 < (tps T l ++ tps T s).length
      rw [List.length_append]; omega
