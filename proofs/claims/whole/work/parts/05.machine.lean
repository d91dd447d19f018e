/-! ===== a small machine over a picture of the heap: each instruction a predicate transformer ===== -/
abbrev mV : Type := Int32 ⊕ Option Nat
def mE (rho : Nat → Nat) (v : mV) : Value := match v with
  | .inl x => .int x
  | .inr none => .null
  | .inr (some k) => .ref (rho k)
theorem mE_cat (rho : Nat → Nat) (v : mV) : (mE rho v).category = 1 := by
  rcases v with x | (_ | k) <;> rfl
abbrev mX (S : Type) : Type := Nat × List (Option mV) × List mV × S × Nat × Nat
abbrev mP (S : Type) : Type := List mV → S → Nat → Nat → (Option mV → S → Prop) → Prop
abbrev mH (S : Type) : Type := Instr → List mV → S → Nat → Nat → (List mV → S → Nat → Nat → Prop) → Prop
abbrev mC : Type := List (Nat × Instr × Nat)
/-- callees: kind of call, index, how many arguments (the receiver counts), kind of answer, the callee -/
abbrev mQ (S : Type) : Type := List ((Nat × Nat) × Nat × Nat × mP S)
def mm_lk (cd : mC) (pc : Nat) : Option (Instr × Nat) := (cd.find? (fun q => q.1 == pc)).map (fun q => q.2)
def mm_cl {S : Type} (sp : mQ S) (j i : Nat) : Option (Nat × Nat × mP S) := (sp.find? (fun q => q.1.1 == j && q.1.2 == i)).map (fun q => q.2)
def mm_cmp (c : Jvm.ClassFile.Cond) (x y : Int32) : Prop := match c with
  | .eq => x = y
  | .ne => ¬ x = y
  | .lt => x < y
  | .ge => y ≤ x
  | .gt => y < x
  | .le => x ≤ y
def mm_go (pc : Nat) (off : Int) (k : Nat → Prop) : Prop := if 0 ≤ (pc : Int) + off then k ((pc : Int) + off).toNat else False
def mm_tab (pc : Nat) (x : Int) (k : Nat → Prop) : Int → List Int → Prop
  | _, [] => True
  | v, o :: r => (x = v → mm_go pc o k) ∧ mm_tab pc x k (v + 1) r
def mm_lks (pc : Nat) (x : Int) (k : Nat → Prop) (d : Int) : List (Int × Int) → Prop
  | [] => mm_go pc d k
  | q :: r => (x = q.1 → mm_go pc q.2 k) ∧ (¬ x = q.1 → mm_lks pc x k d r)
/-- what a method hands back: nothing, an int, a reference -/
def mN {S : Type} (post : S → Prop) : Option mV → S → Prop := fun r s => r = none ∧ post s
def mI {S : Type} (post : Int32 → S → Prop) : Option mV → S → Prop := fun r s => ∃ v, r = some (.inl v) ∧ post v s
def mR {S : Type} (post : Option Nat → S → Prop) : Option mV → S → Prop := fun r s => ∃ v, r = some (.inr v) ∧ post v s
theorem mN_e {S : Type} (post : S → Prop) (s : S) : mN post none s = post s := propext ⟨fun h => h.2, fun h => ⟨rfl, h⟩⟩
theorem mI_e {S : Type} (post : Int32 → S → Prop) (v : Int32) (s : S) : mI post (some (.inl v)) s = post v s := propext ⟨fun ⟨w, h1, h2⟩ => by cases h1; exact h2, fun h => ⟨v, rfl, h⟩⟩
theorem mR_e {S : Type} (post : Option Nat → S → Prop) (v : Option Nat) (s : S) : mR post (some (.inr v)) s = post v s := propext ⟨fun ⟨w, h1, h2⟩ => by cases h1; exact h2, fun h => ⟨v, rfl, h⟩⟩
def mm_call {S : Type} (sp : mQ S) (j i pc : Nat) (ls : List (Option mV)) (st : List mV) (s : S) (a b : Nat) (k : mX S → Prop) : Prop :=
  match mm_cl sp j i with
  | none => False
  | some (n, kd, P) =>
    if n ≤ st.length ∧ st.length ≤ n + 8 then
      match kd with
      | 0 => ∃ Q0 : S → Prop, P (st.take n).reverse s 0 0 (mN Q0) ∧ ∀ s', Q0 s' → k (pc + 3, ls, st.drop n, s', a, b)
      | 1 => ∃ Q0 : Int32 → S → Prop, P (st.take n).reverse s 0 0 (mI Q0) ∧ ∀ r s', Q0 r s' → k (pc + 3, ls, .inl r :: st.drop n, s', a, b)
      | 2 => ∃ Q0 : Option Nat → S → Prop, P (st.take n).reverse s 0 0 (mR Q0) ∧ ∀ r s', Q0 r s' → k (pc + 3, ls, .inr r :: st.drop n, s', a, b)
      | 3 => ∃ (ca cb : Nat) (Q0 : S → Prop), ca ≤ a ∧ cb ≤ b ∧ P (st.take n).reverse s ca cb (mN Q0) ∧ ∀ s', Q0 s' → k (pc + 3, ls, st.drop n, s', a - ca, b - cb)
      | 4 => ∃ (ca cb : Nat) (Q0 : Int32 → S → Prop), ca ≤ a ∧ cb ≤ b ∧ P (st.take n).reverse s ca cb (mI Q0) ∧ ∀ r s', Q0 r s' → k (pc + 3, ls, .inl r :: st.drop n, s', a - ca, b - cb)
      | _ => ∃ (ca cb : Nat) (Q0 : Option Nat → S → Prop), ca ≤ a ∧ cb ≤ b ∧ P (st.take n).reverse s ca cb (mR Q0) ∧ ∀ r s', Q0 r s' → k (pc + 3, ls, .inr r :: st.drop n, s', a - ca, b - cb)
    else False
def mm_in {S : Type} (rk : Nat) (hk : mH S) (sp : mQ S) (ret : Option mV → S → Prop) (ins : Instr) (len pc : Nat) (ls : List (Option mV)) (st : List mV) (s : S) (a b : Nat) (k : mX S → Prop) : Prop :=
  match ins with
  | .iconst n => k (pc + len, ls, .inl (Int32.ofInt n) :: st, s, a, b)
  | .bipush n => k (pc + len, ls, .inl (Int8.ofInt n).toInt32 :: st, s, a, b)
  | .sipush n => k (pc + len, ls, .inl (Int16.ofInt n).toInt32 :: st, s, a, b)
  | .aconst_null => k (pc + len, ls, .inr none :: st, s, a, b)
  | .iload_n n => match ls[n.1]? with
    | some (some (.inl v)) => k (pc + len, ls, .inl v :: st, s, a, b)
    | _ => False
  | .iload n => match ls[n]? with
    | some (some (.inl v)) => k (pc + len, ls, .inl v :: st, s, a, b)
    | _ => False
  | .aload_n n => match ls[n.1]? with
    | some (some (.inr v)) => k (pc + len, ls, .inr v :: st, s, a, b)
    | _ => False
  | .aload n => match ls[n]? with
    | some (some (.inr v)) => k (pc + len, ls, .inr v :: st, s, a, b)
    | _ => False
  | .istore_n n => match st with
    | .inl v :: st' => if n.1 < ls.length then k (pc + len, ls.set n.1 (some (.inl v)), st', s, a, b) else False
    | _ => False
  | .istore n => match st with
    | .inl v :: st' => if n < ls.length then k (pc + len, ls.set n (some (.inl v)), st', s, a, b) else False
    | _ => False
  | .astore_n n => match st with
    | .inr v :: st' => if n.1 < ls.length then k (pc + len, ls.set n.1 (some (.inr v)), st', s, a, b) else False
    | _ => False
  | .astore n => match st with
    | .inr v :: st' => if n < ls.length then k (pc + len, ls.set n (some (.inr v)), st', s, a, b) else False
    | _ => False
  | .iinc n d => match ls[n]? with
    | some (some (.inl v)) => k (pc + len, ls.set n (some (.inl (v + Int32.ofInt d))), st, s, a, b)
    | _ => False
  | .iadd => match st with
    | .inl y :: .inl x :: st' => k (pc + len, ls, .inl (x + y) :: st', s, a, b)
    | _ => False
  | .isub => match st with
    | .inl y :: .inl x :: st' => k (pc + len, ls, .inl (x - y) :: st', s, a, b)
    | _ => False
  | .imul => match st with
    | .inl y :: .inl x :: st' => k (pc + len, ls, .inl (x * y) :: st', s, a, b)
    | _ => False
  | .iand => match st with
    | .inl y :: .inl x :: st' => k (pc + len, ls, .inl (x &&& y) :: st', s, a, b)
    | _ => False
  | .ior => match st with
    | .inl y :: .inl x :: st' => k (pc + len, ls, .inl (x ||| y) :: st', s, a, b)
    | _ => False
  | .ishl => match st with
    | .inl y :: .inl x :: st' => k (pc + len, ls, .inl (x <<< (y &&& 31)) :: st', s, a, b)
    | _ => False
  | .idiv => match st with
    | .inl y :: .inl x :: st' => ¬ y = 0 ∧ k (pc + len, ls, .inl (x / y) :: st', s, a, b)
    | _ => False
  | .irem => match st with
    | .inl y :: .inl x :: st' => ¬ y = 0 ∧ k (pc + len, ls, .inl (x - x / y * y) :: st', s, a, b)
    | _ => False
  | .dup => match st with
    | v :: st' => k (pc + len, ls, v :: v :: st', s, a, b)
    | _ => False
  | .pop => match st with
    | _ :: st' => k (pc + len, ls, st', s, a, b)
    | _ => False
  | .goto o => mm_go pc o (fun t => k (t, ls, st, s, a, b))
  | .ifCond c o => match st with
    | .inl x :: st' => mm_go pc o (fun t => (mm_cmp c x 0 → k (t, ls, st', s, a, b)) ∧ (¬ mm_cmp c x 0 → k (pc + len, ls, st', s, a, b)))
    | _ => False
  | .if_icmp c o => match st with
    | .inl y :: .inl x :: st' => mm_go pc o (fun t => (mm_cmp c x y → k (t, ls, st', s, a, b)) ∧ (¬ mm_cmp c x y → k (pc + len, ls, st', s, a, b)))
    | _ => False
  | .ifnull o => match st with
    | .inr x :: st' => mm_go pc o (fun t => (x = none → k (t, ls, st', s, a, b)) ∧ (∀ q, x = some q → k (pc + len, ls, st', s, a, b)))
    | _ => False
  | .ifnonnull o => match st with
    | .inr x :: st' => mm_go pc o (fun t => (∀ q, x = some q → k (t, ls, st', s, a, b)) ∧ (x = none → k (pc + len, ls, st', s, a, b)))
    | _ => False
  | .if_acmp c o => match st with
    | .inr y :: .inr x :: st' => (∀ q, x = some q → 24 ≤ q) ∧ (∀ q, y = some q → 24 ≤ q) ∧ (match c with
      | .eq => mm_go pc o (fun t => (x = y → k (t, ls, st', s, a, b)) ∧ (¬ x = y → k (pc + len, ls, st', s, a, b)))
      | .ne => mm_go pc o (fun t => (¬ x = y → k (t, ls, st', s, a, b)) ∧ (x = y → k (pc + len, ls, st', s, a, b))))
    | _ => False
  | .tableswitch d lo hi offs => match st with
    | .inl x :: st' => if offs.toList.length = (hi - lo + 1).toNat then
        ((x.toInt < lo ∨ hi < x.toInt) → mm_go pc d (fun t => k (t, ls, st', s, a, b))) ∧ mm_tab pc x.toInt (fun t => k (t, ls, st', s, a, b)) lo offs.toList else False
    | _ => False
  | .lookupswitch d ps => match st with
    | .inl x :: st' => if (ps.toList.zip (ps.toList.drop 1)).all (fun (a, next) => a.1 < next.1) = true then mm_lks pc x.toInt (fun t => k (t, ls, st', s, a, b)) d ps.toList else False
    | _ => False
  | .ireturn => match st with
    | [.inl v] => (match rk with
      | 1 => ret (some (.inl v)) s
      | 2 => (v = 0 ∨ v = 1) ∧ ret (some (.inl v)) s
      | _ => False)
    | _ => False
  | .areturn => match st with
    | [.inr v] => (match rk with
      | 3 => ret (some (.inr v)) s
      | _ => False)
    | _ => False
  | .return_ => match st with
    | [] => (match rk with
      | 0 => ret none s
      | _ => False)
    | _ => False
  | .invokevirtual i => mm_call sp 0 i pc ls st s a b k
  | .invokestatic i => mm_call sp 1 i pc ls st s a b k
  | .invokespecial i => mm_call sp 2 i pc ls st s a b k
  | ins => hk ins st s a b (fun st' s' a' b' => k (pc + len, ls, st', s', a', b'))
def mm_st {S : Type} (rk : Nat) (cd : mC) (hk : mH S) (sp : mQ S) (ret : Option mV → S → Prop) (x : mX S) (k : mX S → Prop) : Prop :=
  match mm_lk cd x.1 with
  | none => False
  | some q => mm_in rk hk sp ret q.1 q.2 x.1 x.2.1 x.2.2.1 x.2.2.2.1 x.2.2.2.2.1 x.2.2.2.2.2 k
/-- from here the method comes to an end with 'ret' -/
def mm_W {S : Type} (rk : Nat) (cd : mC) (hk : mH S) (sp : mQ S) (ret : Option mV → S → Prop) (x : mX S) : Prop := ∀ P : mX S → Prop, (∀ y, mm_st rk cd hk sp ret y P → P y) → P x
def mH_mono {S : Type} (hk : mH S) : Prop := ∀ (ins : Instr) (st : List mV) (s : S) (a b : Nat) (k k' : List mV → S → Nat → Nat → Prop), (∀ st' s' a' b', k st' s' a' b' → k' st' s' a' b') → hk ins st s a b k → hk ins st s a b k'
theorem mm_go_mono {pc : Nat} {o : Int} {k k' : Nat → Prop} (h : ∀ t, k t → k' t) (h1 : mm_go pc o k) : mm_go pc o k' := by
  unfold mm_go at *
  split at h1
  · rename_i hc
    rw [if_pos hc]
    exact h _ h1
  · exact h1.elim
theorem mm_tab_mono {pc : Nat} {x : Int} {k k' : Nat → Prop} (h : ∀ t, k t → k' t) : ∀ (l : List Int) (v : Int), mm_tab pc x k v l → mm_tab pc x k' v l
  | [], _, _ => trivial
  | _ :: r, v, h1 => ⟨fun q => mm_go_mono h (h1.1 q), mm_tab_mono h r (v + 1) h1.2⟩
theorem mm_lks_mono {pc : Nat} {x d : Int} {k k' : Nat → Prop} (h : ∀ t, k t → k' t) : ∀ (l : List (Int × Int)), mm_lks pc x k d l → mm_lks pc x k' d l
  | [], h1 => mm_go_mono h h1
  | _ :: r, h1 => ⟨fun q => mm_go_mono h (h1.1 q), fun q => mm_lks_mono h r (h1.2 q)⟩
theorem mm_call_mono {S : Type} {sp : mQ S} {j i pc : Nat} {ls : List (Option mV)} {st : List mV} {s : S} {a b : Nat} {k k' : mX S → Prop} (h : ∀ z, k z → k' z) (h1 : mm_call sp j i pc ls st s a b k) : mm_call sp j i pc ls st s a b k' := by
  unfold mm_call at *
  split at h1
  · exact h1.elim
  · split at h1
    · rename_i hc
      rw [if_pos hc]
      split at h1
      · obtain ⟨Q0, h2, h3⟩ := h1; exact ⟨Q0, h2, fun s' q => h _ (h3 s' q)⟩
      · obtain ⟨Q0, h2, h3⟩ := h1; exact ⟨Q0, h2, fun r s' q => h _ (h3 r s' q)⟩
      · obtain ⟨Q0, h2, h3⟩ := h1; exact ⟨Q0, h2, fun r s' q => h _ (h3 r s' q)⟩
      · obtain ⟨ca, cb, Q0, h4, h5, h2, h3⟩ := h1; exact ⟨ca, cb, Q0, h4, h5, h2, fun s' q => h _ (h3 s' q)⟩
      · obtain ⟨ca, cb, Q0, h4, h5, h2, h3⟩ := h1; exact ⟨ca, cb, Q0, h4, h5, h2, fun r s' q => h _ (h3 r s' q)⟩
      · obtain ⟨ca, cb, Q0, h4, h5, h2, h3⟩ := h1; exact ⟨ca, cb, Q0, h4, h5, h2, fun r s' q => h _ (h3 r s' q)⟩
    · exact h1.elim
set_option maxHeartbeats 4000000 in
theorem mm_in_mono {S : Type} {rk : Nat} {hk : mH S} (hm : mH_mono hk) {sp : mQ S} {ret : Option mV → S → Prop} {ins : Instr} {len pc : Nat} {ls : List (Option mV)} {st : List mV} {s : S} {a b : Nat} {k k' : mX S → Prop} (h : ∀ z, k z → k' z) (h1 : mm_in rk hk sp ret ins len pc ls st s a b k) : mm_in rk hk sp ret ins len pc ls st s a b k' := by
  unfold mm_in at *
  split at h1 <;> (try exact h _ h1) <;> (try exact mm_call_mono h h1) <;> (try exact hm _ _ _ _ _ _ _ (fun _ _ _ _ q => h _ q) h1) <;> (try exact mm_go_mono (fun t q => h _ q) h1)
  all_goals (split at h1 <;> (try exact h1.elim) <;> (try exact h _ h1) <;> (try exact h1) <;> (try exact ⟨h1.1, h _ h1.2⟩))
  all_goals first
    | (split at h1 <;> first | exact h1 | exact h1.elim | exact ⟨h1.1, h1.2⟩)
    | (split at h1; rename_i hc; rw [if_pos hc]; exact h _ h1; exact h1.elim)
    | exact mm_go_mono (fun t h1 => ⟨fun q => h _ (h1.1 q), fun q => h _ (h1.2 q)⟩) h1
    | exact mm_go_mono (fun t h1 => ⟨fun q => h _ (h1.1 q), fun q e => h _ (h1.2 q e)⟩) h1
    | exact mm_go_mono (fun t h1 => ⟨fun q e => h _ (h1.1 q e), fun q => h _ (h1.2 q)⟩) h1
    | (obtain ⟨g1, g2, h1⟩ := h1
       refine ⟨g1, g2, ?_⟩
       split at h1 <;> exact mm_go_mono (fun t h1 => ⟨fun q => h _ (h1.1 q), fun q => h _ (h1.2 q)⟩) h1)
    | (split at h1
       · rename_i hc; rw [if_pos hc]; exact ⟨fun q => mm_go_mono (fun t q => h _ q) (h1.1 q), mm_tab_mono (fun t q => h _ q) _ _ h1.2⟩
       · exact h1.elim)
    | (split at h1
       · rename_i hc; rw [if_pos hc]; exact mm_lks_mono (fun t q => h _ q) _ h1
       · exact h1.elim)
theorem mm_st_mono {S : Type} {rk : Nat} {cd : mC} {hk : mH S} (hm : mH_mono hk) {sp : mQ S} {ret : Option mV → S → Prop} {x : mX S} {k k' : mX S → Prop} (h : ∀ z, k z → k' z) (h1 : mm_st rk cd hk sp ret x k) : mm_st rk cd hk sp ret x k' := by
  unfold mm_st at *
  split at h1
  · exact h1.elim
  · exact mm_in_mono hm h h1
theorem mm_W_eq {S : Type} {rk : Nat} {cd : mC} {hk : mH S} (hm : mH_mono hk) {sp : mQ S} {ret : Option mV → S → Prop} (x : mX S) : mm_W rk cd hk sp ret x = mm_st rk cd hk sp ret x (mm_W rk cd hk sp ret) := by
  apply propext
  constructor
  · intro h
    exact h _ (fun y hy => mm_st_mono hm (fun z hz P hP => hP z (mm_st_mono hm (fun w hw => hw P hP) hz)) hy)
  · intro h P hP
    exact hP x (mm_st_mono hm (fun z hz => hz P hP) h)
/-! a loop: a measure that falls -/
theorem mm_loop {α : Type} (G : α → Prop) (Inv : α → Prop) (mu : α → Nat) (h : ∀ x, Inv x → (∀ y, Inv y → mu y < mu x → G y) → G x) : ∀ x, Inv x → G x := by
  have key : ∀ (n : Nat) (x : α), mu x < n → Inv x → G x := by
    intro n
    induction n with
    | zero => intro x hx; omega
    | succ n ih => intro x hx hi; exact h x hi (fun y hy hl => ih y (by omega) hy)
  exact fun x hi => key (mu x + 1) x (by omega) hi
