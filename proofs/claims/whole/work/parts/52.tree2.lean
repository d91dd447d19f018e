theorem fm_len {T : sT} : ∀ (L : List tL), (∀ x ∈ L, lbt T x ≠ []) → L.length ≤ (L.flatMap (lbt T)).length
  | [], _ => Nat.le_refl _
  | a :: L, h => by
    rw [List.flatMap_cons, List.length_append, List.length_cons]
    have h1 := fm_len L (fun x hx => h x (List.mem_cons_of_mem _ hx))
    have h2 : 0 < (lbt T a).length := List.length_pos_iff.mpr (h a List.mem_cons_self)
    omega
/-- pieces balanced: well made, with their text -/
theorem bal_ok {T : sT} : ∀ (n : Nat) (L : List tL), 0 < L.length → L.length ≤ 2 ^ n → (∀ x ∈ L, okL T x) → (L.flatMap (lbt T)).length ≤ 120 → tw T n (bal n L) ∧ ttx T (bal n L) = L.flatMap (lbt T) ∧ ttx T (bal n L) ≠ [] := by
  intro n
  induction n with
  | zero =>
    intro L h0 h1 hL hlen
    match L, h0, h1 with
    | [x], _, _ =>
      refine ⟨okL_w (hL x List.mem_cons_self) 0, ?_, ?_⟩
      · show lbt T x = _
        simp
      · exact (hL x List.mem_cons_self).2
  | succ n ih =>
    intro L h0 h1 hL hlen
    by_cases h2 : L.length < 2
    · match L, h0, h2 with
      | [x], _, _ =>
        refine ⟨okL_w (hL x List.mem_cons_self) (n + 1), ?_, ?_⟩
        · show lbt T x = _
          simp
        · exact (hL x List.mem_cons_self).2
    · have e : bal (n + 1) L = tj (bal n (L.take (L.length / 2))) (bal n (L.drop (L.length / 2))) := by simp only [bal, if_neg h2]
      have hsplit : (L.take (L.length / 2)).flatMap (lbt T) ++ (L.drop (L.length / 2)).flatMap (lbt T) = L.flatMap (lbt T) := by rw [← List.flatMap_append, List.take_append_drop]
      have hl : ((L.take (L.length / 2)).flatMap (lbt T)).length + ((L.drop (L.length / 2)).flatMap (lbt T)).length ≤ 120 := by rw [← List.length_append, hsplit]; exact hlen
      rw [Nat.pow_succ] at h1
      obtain ⟨a1, a2, a3⟩ := ih (L.take (L.length / 2)) (by rw [List.length_take]; omega) (by rw [List.length_take]; omega) (fun x hx => hL x (List.mem_of_mem_take hx)) (by omega)
      obtain ⟨b1, b2, b3⟩ := ih (L.drop (L.length / 2)) (by rw [List.length_drop]; omega) (by rw [List.length_drop]; omega) (fun x hx => hL x (List.mem_of_mem_drop hx)) (by omega)
      rw [e]
      have et : ttx T (tj (bal n (L.take (L.length / 2))) (bal n (L.drop (L.length / 2)))) = L.flatMap (lbt T) := by
        show ttx T _ ++ ttx T _ = _
        rw [a2, b2, hsplit]
      refine ⟨⟨a1, b1, a3, b3, by rw [a2, b2]; exact hl⟩, et, ?_⟩
      show ttx T _ ++ ttx T _ ≠ []
      intro hz
      exact a3 (List.append_eq_nil_iff.mp hz).1
theorem joinT_ok {T : sT} {sm dp : Nat} {a b : tT} (ha : tw T 12 a) (hb : tw T 12 b) (hdp : dp ≤ 12) (hlen : (ttx T a).length + (ttx T b).length ≤ 120) : tw T 12 (joinT T sm dp a b) ∧ ttx T (joinT T sm dp a b) = ttx T a ++ ttx T b := by
  unfold joinT
  split
  · rename_i h; rw [h, List.append_nil]; exact ⟨ha, rfl⟩
  · rename_i hb0
    split
    · rename_i h; rw [h, List.nil_append]; exact ⟨hb, rfl⟩
    · rename_i ha0
      split
      · refine ⟨?_, rfl⟩
        show okt _
        refine ⟨by rw [List.length_append]; exact hlen, fun x hx => ?_⟩
        rcases List.mem_append.mp hx with h | h
        · exact (tw_okt a 12 (Nat.le_refl _) ha).2 x h
        · exact (tw_okt b 12 (Nat.le_refl _) hb).2 x h
      · split
        · rename_i hd
          exact ⟨⟨tw_low a 12 11 (Nat.le_refl _) ha (by omega), tw_low b 12 11 (Nat.le_refl _) hb (by omega), ha0, hb0, hlen⟩, rfl⟩
        · obtain ⟨a1, a2, a3⟩ := tps_okL a 12 (Nat.le_refl _) ha ha0
          obtain ⟨b1, b2, b3⟩ := tps_okL b 12 (Nat.le_refl _) hb hb0
          have hf : (tps T a ++ tps T b).flatMap (lbt T) = ttx T a ++ ttx T b := by rw [List.flatMap_append, a2, b2]
          have hok : ∀ x ∈ tps T a ++ tps T b, okL T x := fun x hx => (List.mem_append.mp hx).elim (a1 x) (b1 x)
          have hn := fm_len (T := T) (tps T a ++ tps T b) (fun x hx => (hok x hx).2)
          rw [hf, List.length_append (as := ttx T a)] at hn
          obtain ⟨c1, c2, -⟩ := bal_ok (T := T) 7 (tps T a ++ tps T b) (by rw [List.length_append]; omega) (by omega) hok (by rw [hf, List.length_append]; exact hlen)
          exact ⟨tw_le (by omega) c1, by rw [c2, hf]⟩
/-- a cut: well made, with the signs that were asked for -/
theorem cutL_ok {T : sT} {t : List Int32} {lo b f m : Nat} (hb : T b = some (.inl t)) (ht : okt t) (hlo : 1 ≤ lo ∧ lo ≤ 8) (hm : 0 < m) (hfm : f + m ≤ t.length) : tw T 12 (cutL t lo b f m) ∧ ttx T (cutL t lo b f m) = (t.drop f).take m := by
  unfold cutL
  split
  · refine ⟨?_, rfl⟩
    show okt _
    exact ⟨by have := ht.1; rw [List.length_take, List.length_drop]; omega, fun x hx => ht.2 x (List.mem_of_mem_drop (List.mem_of_mem_take hx))⟩
  · rename_i h
    refine ⟨?_, ?_⟩
    · show oks T (b, f, m)
      refine ⟨t, hb, ht, hfm, hm, ?_⟩
      show t.length ≤ 8 * m
      have : m * lo ≤ m * 8 := Nat.mul_le_mul_left m hlo.2
      omega
    · show ((lfT T b).drop f).take m = _
      simp only [lfT, hb]
theorem cutT_ok {T : sT} {sm dp lo : Nat} (hdp : dp ≤ 12) (hlo : 1 ≤ lo ∧ lo ≤ 8) : ∀ (n c f m : Nat), n ≤ 12 → wf T n c → f + m ≤ (tx T n c).length → tw T 12 (cutT T sm dp lo n c f m) ∧ ttx T (cutT T sm dp lo n c f m) = ((tx T n c).drop f).take m := by
  intro n
  induction n with
  | zero =>
    intro c f m hn hw hfm
    unfold cutT
    split
    · rename_i h
      subst h
      exact ⟨⟨Nat.zero_le _, fun x hx => by simp at hx⟩, by simp [ttx, tl, lbt]⟩
    · split
      · rename_i h0 h
        refine ⟨(wf_le (by omega) hw).1, ?_⟩
        show tx T 12 c = _
        have hf : f = 0 := by omega
        rw [(wf_le hn hw).2.1, hf, h]
        simp
      · rename_i h0 h
        rcases wf_cases hw with ⟨t, hc, ht⟩ | ⟨q, hc, hq⟩ | ⟨k, q, hk, -⟩
        · rw [hc]
          rw [tx_leaf hc] at hfm ⊢
          exact cutL_ok hc ht hlo (by omega) hfm
        · rw [hc]
          obtain ⟨t, q1, q2, q3, q4, q5⟩ := id hq
          rw [tx_slice hc] at hfm ⊢
          rw [oks_len hq] at hfm
          have e : lfT T q.1 = t := by simp only [lfT, q1]
          dsimp only
          rw [e]
          obtain ⟨g1, g2⟩ := cutL_ok (lo := lo) (f := q.2.1 + f) (m := m) q1 q2 hlo (by omega) (by omega)
          refine ⟨g1, ?_⟩
          rw [g2]
          rw [List.drop_take, List.drop_drop, List.take_take]
          congr 1
          omega
        · cases hk
  | succ n ih =>
    intro c f m hn hw hfm
    unfold cutT
    split
    · rename_i h
      subst h
      exact ⟨⟨Nat.zero_le _, fun x hx => by simp at hx⟩, by simp [ttx, tl, lbt]⟩
    · split
      · rename_i h0 h
        refine ⟨(wf_le (by omega) hw).1, ?_⟩
        show tx T 12 c = _
        have hf : f = 0 := by omega
        rw [(wf_le hn hw).2.1, hf, h]
        simp
      · rename_i h0 h
        rcases wf_cases hw with ⟨t, hc, ht⟩ | ⟨q, hc, hq⟩ | ⟨k, q, hk, hc, h1, h2, h3, h4, h5⟩
        · rw [hc]
          rw [tx_leaf hc] at hfm ⊢
          exact cutL_ok hc ht hlo (by omega) hfm
        · rw [hc]
          obtain ⟨t, q1, q2, q3, q4, q5⟩ := id hq
          rw [tx_slice hc] at hfm ⊢
          rw [oks_len hq] at hfm
          have e : lfT T q.1 = t := by simp only [lfT, q1]
          dsimp only
          rw [e]
          obtain ⟨g1, g2⟩ := cutL_ok (lo := lo) (f := q.2.1 + f) (m := m) q1 q2 hlo (by omega) (by omega)
          refine ⟨g1, ?_⟩
          rw [g2]
          rw [List.drop_take, List.drop_drop, List.take_take]
          congr 1
          omega
        · cases hk
          rw [hc]
          dsimp only
          rw [tx_join hc] at hfm ⊢
          rw [List.length_append] at hfm
          split
          · rename_i hl
            obtain ⟨g1, g2⟩ := ih q.1 f m (by omega) h1 hl
            refine ⟨g1, ?_⟩
            rw [g2, List.drop_append_of_le_length (by omega), List.take_append_of_le_length (by rw [List.length_drop]; omega)]
          · split
            · rename_i hl1 hl2
              obtain ⟨g1, g2⟩ := ih q.2 (f - (tx T n q.1).length) m (by omega) h2 (by omega)
              refine ⟨g1, ?_⟩
              rw [g2, List.drop_append, List.drop_eq_nil_of_le hl2, List.nil_append]
            · rename_i hl1 hl2
              obtain ⟨g1, g2⟩ := ih q.1 f ((tx T n q.1).length - f) (by omega) h1 (by omega)
              obtain ⟨k1, k2⟩ := ih q.2 0 (f + m - (tx T n q.1).length) (by omega) h2 (by omega)
              have e1 : ttx T (cutT T sm dp lo n q.1 f ((tx T n q.1).length - f)) = (tx T n q.1).drop f := by
                rw [g2, List.take_of_length_le (by rw [List.length_drop]; omega)]
              obtain ⟨j1, j2⟩ := joinT_ok (sm := sm) (dp := dp) g1 k1 hdp (by rw [g2, k2, List.length_take, List.length_take, List.length_drop, List.length_drop]; omega)
              refine ⟨j1, ?_⟩
              rw [j2, e1, k2, List.drop_zero, List.drop_append_of_le_length (by omega), List.take_append, List.length_drop]
              congr 1
              · rw [List.take_of_length_le (by rw [List.length_drop]; omega)]
              · congr 1
                omega
