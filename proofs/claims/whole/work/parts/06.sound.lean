/-! ===== the small machine is sound: what it says, the machine does ===== -/
def mm_okl (ins : Instr) (len : Nat) : Bool := match ins with
  | .iconst _ => len == 1
  | .bipush _ => len == 2
  | .sipush _ => len == 3
  | .aconst_null => len == 1
  | .iload_n _ => len == 1
  | .iload _ => len == 2
  | .aload_n _ => len == 1
  | .aload _ => len == 2
  | .istore_n _ => len == 1
  | .istore _ => len == 2
  | .astore_n _ => len == 1
  | .astore _ => len == 2
  | .iinc _ _ => len == 3
  | .iadd => len == 1
  | .isub => len == 1
  | .imul => len == 1
  | .iand => len == 1
  | .ior => len == 1
  | .ishl => len == 1
  | .idiv => len == 1
  | .irem => len == 1
  | .dup => len == 1
  | .pop => len == 1
  | .goto _ => len == 3
  | .ifCond _ _ => len == 3
  | .if_icmp _ _ => len == 3
  | .ifnull _ => len == 3
  | .ifnonnull _ => len == 3
  | .ireturn => len == 1
  | .areturn => len == 1
  | .return_ => len == 1
  | .invokevirtual _ => len == 3
  | .invokestatic _ => len == 3
  | .invokespecial _ => len == 3
  | .getfield _ => len == 3
  | .putfield _ => len == 3
  | .getstatic _ => len == 3
  | .iaload => len == 1
  | .iastore => len == 1
  | .baload => len == 1
  | .bastore => len == 1
  | .aaload => len == 1
  | .aastore => len == 1
  | .arraylength => len == 1
  | .ldc _ => len == 2
  | .new _ => len == 3
  | .anewarray _ => len == 3
  | .newarray _ => len == 2
  | .if_acmp _ _ => len == 3
  | _ => true
def mm_L (rho : Nat → Nat) (ls : Array Slot) (l : List (Option mV)) : Prop := ls.size = l.length ∧ lv_wf ls ∧ ∀ (i : Nat) (v : mV), l[i]? = some (some v) → ls[i]? = some (.val (mE rho v))
def mm_pairs (rho : Nat → Nat) (l : List (Option mV)) : List (Nat × Value) := (List.range l.length).filterMap (fun i => match l[i]? with
  | some (some v) => some (i, mE rho v)
  | _ => none)
theorem mm_L_has {rho : Nat → Nat} {ls : Array Slot} {l : List (Option mV)} (h : mm_L rho ls l) : lv_has ls l.length (mm_pairs rho l) := by
  refine ⟨h.1, h.2.1, fun q hq => ?_⟩
  obtain ⟨i, -, hi⟩ := List.mem_filterMap.mp hq
  split at hi
  · rename_i v hv
    cases hi
    exact h.2.2 i v hv
  · cases hi
theorem mm_pairs_mem {rho : Nat → Nat} {l : List (Option mV)} {i : Nat} {v : mV} (h : l[i]? = some (some v)) : (i, mE rho v) ∈ mm_pairs rho l := by
  refine List.mem_filterMap.mpr ⟨i, List.mem_range.mpr (List.getElem?_eq_some_iff.mp h).1, ?_⟩
  rw [h]
theorem mm_L_set {rho : Nat → Nat} {ls : Array Slot} {l : List (Option mV)} {i : Nat} {v : mV} (hi : i < l.length) (h : lv_has ls l.length ((i, mE rho v) :: (mm_pairs rho l).filter (fun q => !(q.1 == i) && !(q.1 + 1 == i && q.2.category == 2)))) : mm_L rho ls (l.set i (some v)) := by
  refine ⟨by rw [List.length_set]; exact h.1, h.2.1, fun j w hj => ?_⟩
  by_cases hji : j = i
  · subst hji
    rw [List.getElem?_set_self hi] at hj
    cases hj
    exact h.2.2 _ List.mem_cons_self
  · rw [List.getElem?_set_ne (Ne.symm hji)] at hj
    refine h.2.2 (j, mE rho w) (List.mem_cons_of_mem _ (List.mem_filter.mpr ⟨mm_pairs_mem hj, ?_⟩))
    simp [hji, mE_cat]
theorem mm_sl (rho : Nat → Nat) : ∀ as : List mV, lg_sl (as.map (mE rho)) = as.map (fun v => Slot.val (mE rho v))
  | [] => rfl
  | v :: r => by
    have h := mm_sl rho r
    unfold lg_sl at h ⊢
    rw [List.map_cons, List.flatMap_cons, h, mE_cat]
    rfl
theorem mm_L_entry (rho : Nat → Nat) (as : List mV) {nL : Nat} (h : as.length ≤ nL) : mm_L rho ((lg_sl (as.map (mE rho)) ++ List.replicate (nL - (lg_sl (as.map (mE rho))).length) Slot.unset).toArray) (as.map some ++ List.replicate (nL - as.length) none) := by
  have hl : (lg_sl (as.map (mE rho))).length = as.length := by rw [mm_sl, List.length_map]
  have h0 := lv_entry (as.map (mE rho)) (n := nL) (by rw [hl]; exact h)
  refine ⟨?_, h0.2.1, fun i v hv => ?_⟩
  · rw [h0.1]
    simp
    omega
  · have hi : i < as.length := by
      rcases Nat.lt_or_ge i as.length with q | q
      · exact q
      · rw [List.getElem?_append_right (by simpa using q), List.getElem?_replicate] at hv
        split at hv <;> cases hv
    rw [List.getElem?_append_left (by simpa using hi), List.getElem?_map, List.getElem?_eq_getElem hi] at hv
    cases hv
    rw [mm_sl]
    simp only [List.getElem?_toArray]
    rw [List.getElem?_append_left (by simpa using hi)]
    simp [hi]
section MMS
variable {S : Type}
def mm_Q (Wd : S → Heap → Prop) (rho : Nat → Nat) (A : Nat → Prop) (ret : Option mV → S → Prop) : Array Value → State → Outcome → State → Prop := fun _ st oc t => (∃ (r : Option mV) (s' : S), oc = .returned (r.map (mE rho)) ∧ ret r s' ∧ Wd s' t.heap) ∧ va_F A st t
def mm_R (p : Program) (l : Launch) (e : Env) (R : Room) (s0 : State) (m : MethodId) (args : Array Value) (below : List Frame) (meth : Method) (c : Code) (nL : Nat) (Wd : S → Heap → Prop) (rho : Nat → Nat) (A : Nat → Prop) (Q : State → Prop) (x : mX S) : Prop :=
  ∀ (H : Heap) (locs : List Loc) (cells slots : Nat) (ls : Array Slot), Wd x.2.2.2.1 H → va_S A s0.heap H locs → mm_L rho ls x.2.1 → x.2.1.length = nL → cells + x.2.2.2.2.1 ≤ R.cells → slots + x.2.2.2.2.2 ≤ R.slots → W p l e R s0 m args below meth c H locs cells slots Q (F0 m x.1 ls (x.2.2.1.map (mE rho)))
def mm_HS (p : Program) (l : Launch) (e : Env) (R : Room) (s0 : State) (m : MethodId) (args : Array Value) (below : List Frame) (meth : Method) (c : Code) (cc : ByteArray) (Wd : S → Heap → Prop) (rho : Nat → Nat) (A : Nat → Prop) (hk : mH S) (Q : State → Prop) : Prop :=
  ∀ (ins : Instr) (len pc : Nat) (st : List mV) (s : S) (a b : Nat) (k : List mV → S → Nat → Nat → Prop), hk ins st s a b k → decode cc pc = .ok (ins, len) → mm_okl ins len = true → ∀ (H : Heap) (locs : List Loc) (cells slots : Nat) (ls : Array Slot), Wd s H → va_S A s0.heap H locs → cells + a ≤ R.cells → slots + b ≤ R.slots →
    (∀ (st' : List mV) (s' : S) (a' b' : Nat) (H' : Heap) (locs' : List Loc) (cells' slots' : Nat), k st' s' a' b' → Wd s' H' → va_S A s0.heap H' locs' → cells' + a' ≤ R.cells → slots' + b' ≤ R.slots → W p l e R s0 m args below meth c H' locs' cells' slots' Q (F0 m (pc + len) ls (st'.map (mE rho)))) →
    W p l e R s0 m args below meth c H locs cells slots Q (F0 m pc ls (st.map (mE rho)))
def mm_iv (j i : Nat) : Instr := match j with
  | 0 => .invokevirtual i
  | 1 => .invokestatic i
  | _ => .invokespecial i
def mm_CS (p : Program) (l : Launch) (e : Env) (R : Room) (s0 : State) (m : MethodId) (args : Array Value) (below : List Frame) (meth : Method) (c : Code) (cc : ByteArray) (nL : Nat) (Wd : S → Heap → Prop) (rho : Nat → Nat) (A : Nat → Prop) (q : (Nat × Nat) × Nat × Nat × mP S) : Prop :=
  ∀ (as : List mV) (s : S) (mc ms : Nat) (ret : Option mV → S → Prop), q.2.2.2 as s mc ms ret → as.length = q.2.1 → ∀ (H : Heap) (locs : List Loc) (cells slots pc : Nat) (ls : Array Slot) (rest : List mV), decode cc pc = .ok (mm_iv q.1.1 q.1.2, 3) → Wd s H → va_S A s0.heap H locs → cells + mc ≤ R.cells → slots + ms ≤ R.slots → ls.size = nL → rest.length ≤ 8 →
    va_Run p l e R s0 m args below meth c H locs cells slots mc ms (F0 m pc ls (as.reverse.map (mE rho) ++ rest.map (mE rho))) (rest.map (mE rho)) (mm_Q Wd rho A ret #[]) A
def mm_rk (rk : Nat) (rt : Option FieldType) : Prop := match rk with
  | 0 => rt = none
  | 1 => rt = some .int
  | 2 => rt = some .boolean
  | _ => ∃ ty, rt = some ty ∧ ((∃ n, ty = .object n) ∨ ∃ t, ty = .array t)
theorem mm_go_get {pc : Nat} {o : Int} {k : Nat → Prop} (h : mm_go pc o k) : ∃ t : Nat, (pc : Int) + o = (t : Int) ∧ k t := by
  unfold mm_go at h
  split at h
  · rename_i h0
    exact ⟨_, (Int.toNat_of_nonneg h0).symm, h⟩
  · exact h.elim
theorem mm_tab_get {pc : Nat} {x : Int} {k : Nat → Prop} : ∀ (l : List Int) (v : Int), mm_tab pc x k v l → ∀ (j : Nat), j < l.length → x = v + j → ∃ (o : Int) (t : Nat), l[j]? = some o ∧ (pc : Int) + o = (t : Int) ∧ k t
  | [], _, _, j, hj, _ => by simp at hj
  | o :: r, v, h, 0, _, hx => by
    obtain ⟨t, h1, h2⟩ := mm_go_get (h.1 (by simpa using hx))
    exact ⟨o, t, rfl, h1, h2⟩
  | o :: r, v, h, j + 1, hj, hx => by
    obtain ⟨o', t, h1, h2, h3⟩ := mm_tab_get r (v + 1) h.2 j (by simpa using hj) (by rw [hx]; push_cast; omega)
    exact ⟨o', t, by simpa using h1, h2, h3⟩
theorem mm_lks_get {pc : Nat} {x d : Int} {k : Nat → Prop} : ∀ (l : List (Int × Int)), mm_lks pc x k d l → ∃ (o : Int) (t : Nat), Op.lookupswitch.offset l d x = o ∧ (pc : Int) + o = (t : Int) ∧ k t
  | [], h => by
    obtain ⟨t, h1, h2⟩ := mm_go_get h
    exact ⟨d, t, rfl, h1, h2⟩
  | q :: r, h => by
    by_cases hx : x = q.1
    · obtain ⟨t, h1, h2⟩ := mm_go_get (h.1 hx)
      refine ⟨q.2, t, ?_, h1, h2⟩
      obtain ⟨q1, q2⟩ := q
      rw [Op.lookupswitch.offset_cons, if_pos hx.symm]
    · obtain ⟨o, t, h1, h2, h3⟩ := mm_lks_get r (h.2 hx)
      refine ⟨o, t, ?_, h2, h3⟩
      obtain ⟨q1, q2⟩ := q
      rw [Op.lookupswitch.offset_cons, if_neg (fun e => hx e.symm)]
      exact h1
end MMS
