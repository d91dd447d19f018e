section MMT
variable {S : Type} {p : Program} {l : Launch} {e : Env} {R : Room} {s0 : State} {m : MethodId} {args : Array Value} {below : List Frame} {meth : Method} {c : Code} {cc : ByteArray} {nL : Nat} {Wd : S → Heap → Prop} {rho : Nat → Nat} {A : Nat → Prop} {hk : mH S} {sp : mQ S} {cd : mC} {rk : Nat} {ret : Option mV → S → Prop} {Q : State → Prop}
theorem mm_cl_mem {j i n kd : Nat} {P : mP S} (h : mm_cl sp j i = some (n, kd, P)) : ((j, i), n, kd, P) ∈ sp := by
  unfold mm_cl at h
  cases hf : sp.find? (fun q => q.1.1 == j && q.1.2 == i) with
  | none => rw [hf] at h; cases h
  | some q =>
    rw [hf] at h
    have h1 := List.find?_some hf
    have h2 := List.mem_of_find?_eq_some hf
    simp only [Bool.and_eq_true, beq_iff_eq] at h1
    obtain ⟨⟨q1, q2⟩, q3⟩ := q
    have h3 : q3 = (n, kd, P) := Option.some.inj h
    subst h3
    obtain ⟨h4, h5⟩ := h1
    dsimp only at h4 h5
    subst h4; subst h5
    exact h2
theorem mm_call_sound (hx : p.tables.exec = Jvm.exec) (CS : ∀ q ∈ sp, mm_CS p l e R s0 m args below meth c cc nL Wd rho A q) {j i pc : Nat} (hd : decode cc pc = .ok (mm_iv j i, 3)) {l0 : List (Option mV)} {st : List mV} {s : S} {a b : Nat} (h : mm_call sp j i pc l0 st s a b (mm_R p l e R s0 m args below meth c nL Wd rho A Q)) : mm_R p l e R s0 m args below meth c nL Wd rho A Q (pc, l0, st, s, a, b) := by
  unfold mm_call at h
  split at h
  · exact h.elim
  · rename_i n kd P hq
    have hC := CS _ (mm_cl_mem hq)
    split at h
    · rename_i hn
      have hlen : (st.take n).reverse.length = n := by rw [List.length_reverse, List.length_take]; omega
      have hst : st.map (mE rho) = (st.take n).reverse.reverse.map (mE rho) ++ (st.drop n).map (mE rho) := by rw [List.reverse_reverse, ← List.map_append, List.take_append_drop]
      intro H locs cells slots ls hW hS hL hll hc hs
      dsimp only at hW hS hL hll hc hs ⊢
      have hsz : ls.size = nL := hL.1.trans hll
      have hrl : (st.drop n).length ≤ 8 := by rw [List.length_drop]; omega
      rw [hst]
      split at h
      · obtain ⟨Q0, h1, h2⟩ := h
        have hr := hC _ _ _ _ _ h1 hlen H locs cells slots pc ls (st.drop n) hd hW hS (by omega) (by omega) hsz hrl
        intro T hT X
        obtain ⟨v, st₀, t, T', L, h0, X', hL', e1, e2, ⟨⟨r, s', hv, hp, hb⟩, hz, hk⟩, stp⟩ := hr T hT X
        obtain ⟨rfl, hp⟩ := hp
        cases hv
        rw [h0] at hz hk
        obtain ⟨t2, a1, b1⟩ := h2 s' hp T'.heap (locs ++ L) (cells + 0) (slots + 0) ls (by rw [e1]; exact hb) ⟨Nat.le_trans hS.1 (by rw [e1]; exact hz), fun q q1 q2 => by rw [e1, hk q (Nat.lt_of_lt_of_le q1 hS.1) q2]; exact hS.2.1 q q1 q2, fun q hq => by
          rcases List.mem_append.mp hq with h | h
          · exact hS.2.2 q h
          · exact hL' q h⟩ hL hll (by dsimp only; omega) (by dsimp only; omega) T' rfl X'
        exact ⟨t2, stp t2 a1, b1⟩
      · obtain ⟨Q0, h1, h2⟩ := h
        have hr := hC _ _ _ _ _ h1 hlen H locs cells slots pc ls (st.drop n) hd hW hS (by omega) (by omega) hsz hrl
        intro T hT X
        obtain ⟨v, st₀, t, T', L, h0, X', hL', e1, e2, ⟨⟨r, s', hv, hp, hb⟩, hz, hk⟩, stp⟩ := hr T hT X
        obtain ⟨r0, rfl, hp⟩ := hp
        cases hv
        rw [h0] at hz hk
        obtain ⟨t2, a1, b1⟩ := h2 r0 s' hp T'.heap (locs ++ L) (cells + 0) (slots + 0) ls (by rw [e1]; exact hb) ⟨Nat.le_trans hS.1 (by rw [e1]; exact hz), fun q q1 q2 => by rw [e1, hk q (Nat.lt_of_lt_of_le q1 hS.1) q2]; exact hS.2.1 q q1 q2, fun q hq => by
          rcases List.mem_append.mp hq with h | h
          · exact hS.2.2 q h
          · exact hL' q h⟩ hL hll (by dsimp only; omega) (by dsimp only; omega) T' rfl X'
        exact ⟨t2, stp t2 a1, b1⟩
      · obtain ⟨Q0, h1, h2⟩ := h
        have hr := hC _ _ _ _ _ h1 hlen H locs cells slots pc ls (st.drop n) hd hW hS (by omega) (by omega) hsz hrl
        intro T hT X
        obtain ⟨v, st₀, t, T', L, h0, X', hL', e1, e2, ⟨⟨r, s', hv, hp, hb⟩, hz, hk⟩, stp⟩ := hr T hT X
        obtain ⟨r0, rfl, hp⟩ := hp
        cases hv
        rw [h0] at hz hk
        obtain ⟨t2, a1, b1⟩ := h2 r0 s' hp T'.heap (locs ++ L) (cells + 0) (slots + 0) ls (by rw [e1]; exact hb) ⟨Nat.le_trans hS.1 (by rw [e1]; exact hz), fun q q1 q2 => by rw [e1, hk q (Nat.lt_of_lt_of_le q1 hS.1) q2]; exact hS.2.1 q q1 q2, fun q hq => by
          rcases List.mem_append.mp hq with h | h
          · exact hS.2.2 q h
          · exact hL' q h⟩ hL hll (by dsimp only; omega) (by dsimp only; omega) T' rfl X'
        exact ⟨t2, stp t2 a1, b1⟩
      · obtain ⟨ca, cb, Q0, g1, g2, h1, h2⟩ := h
        have hr := hC _ _ _ _ _ h1 hlen H locs cells slots pc ls (st.drop n) hd hW hS (by omega) (by omega) hsz hrl
        intro T hT X
        obtain ⟨v, st₀, t, T', L, h0, X', hL', e1, e2, ⟨⟨r, s', hv, hp, hb⟩, hz, hk⟩, stp⟩ := hr T hT X
        obtain ⟨rfl, hp⟩ := hp
        cases hv
        rw [h0] at hz hk
        obtain ⟨t2, a1, b1⟩ := h2 s' hp T'.heap (locs ++ L) (cells + ca) (slots + cb) ls (by rw [e1]; exact hb) ⟨Nat.le_trans hS.1 (by rw [e1]; exact hz), fun q q1 q2 => by rw [e1, hk q (Nat.lt_of_lt_of_le q1 hS.1) q2]; exact hS.2.1 q q1 q2, fun q hq => by
          rcases List.mem_append.mp hq with h | h
          · exact hS.2.2 q h
          · exact hL' q h⟩ hL hll (by dsimp only; omega) (by dsimp only; omega) T' rfl X'
        exact ⟨t2, stp t2 a1, b1⟩
      · obtain ⟨ca, cb, Q0, g1, g2, h1, h2⟩ := h
        have hr := hC _ _ _ _ _ h1 hlen H locs cells slots pc ls (st.drop n) hd hW hS (by omega) (by omega) hsz hrl
        intro T hT X
        obtain ⟨v, st₀, t, T', L, h0, X', hL', e1, e2, ⟨⟨r, s', hv, hp, hb⟩, hz, hk⟩, stp⟩ := hr T hT X
        obtain ⟨r0, rfl, hp⟩ := hp
        cases hv
        rw [h0] at hz hk
        obtain ⟨t2, a1, b1⟩ := h2 r0 s' hp T'.heap (locs ++ L) (cells + ca) (slots + cb) ls (by rw [e1]; exact hb) ⟨Nat.le_trans hS.1 (by rw [e1]; exact hz), fun q q1 q2 => by rw [e1, hk q (Nat.lt_of_lt_of_le q1 hS.1) q2]; exact hS.2.1 q q1 q2, fun q hq => by
          rcases List.mem_append.mp hq with h | h
          · exact hS.2.2 q h
          · exact hL' q h⟩ hL hll (by dsimp only; omega) (by dsimp only; omega) T' rfl X'
        exact ⟨t2, stp t2 a1, b1⟩
      · obtain ⟨ca, cb, Q0, g1, g2, h1, h2⟩ := h
        have hr := hC _ _ _ _ _ h1 hlen H locs cells slots pc ls (st.drop n) hd hW hS (by omega) (by omega) hsz hrl
        intro T hT X
        obtain ⟨v, st₀, t, T', L, h0, X', hL', e1, e2, ⟨⟨r, s', hv, hp, hb⟩, hz, hk⟩, stp⟩ := hr T hT X
        obtain ⟨r0, rfl, hp⟩ := hp
        cases hv
        rw [h0] at hz hk
        obtain ⟨t2, a1, b1⟩ := h2 r0 s' hp T'.heap (locs ++ L) (cells + ca) (slots + cb) ls (by rw [e1]; exact hb) ⟨Nat.le_trans hS.1 (by rw [e1]; exact hz), fun q q1 q2 => by rw [e1, hk q (Nat.lt_of_lt_of_le q1 hS.1) q2]; exact hS.2.1 q q1 q2, fun q hq => by
          rcases List.mem_append.mp hq with h | h
          · exact hS.2.2 q h
          · exact hL' q h⟩ hL hll (by dsimp only; omega) (by dsimp only; omega) T' rfl X'
        exact ⟨t2, stp t2 a1, b1⟩
    · exact h.elim
end MMT
