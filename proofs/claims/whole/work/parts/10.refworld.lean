/-! ===== the reference: its picture, its world, its instructions ===== -/
abbrev rf_M : Type := (Nat → Int32) × (Nat → Nat → Int32)
def classes : List vw_C := [(RX0, TX0, 9), (RX1, TX1, 2), (RX2, TX2, 4), (RX3, TX3, 2), (RX4, TX4, 3), (RX5, TX5, 5), (RX6, TX6, 11), (RX7, TX7, 39)]
def tys (cs : Nat → ClassId) : List (ClassId × FieldType) := [(cs 0, .int), (cs 1, .boolean), (cs 2, .object RX0)]
theorem in_X0 : ∀ w ∈ u_ws RX0 TX0 9, w ∈ tb := by decide +kernel
theorem in_X1 : ∀ w ∈ u_ws RX1 TX1 2, w ∈ tb := by decide +kernel
theorem in_X2 : ∀ w ∈ u_ws RX2 TX2 4, w ∈ tb := by decide +kernel
theorem in_X3 : ∀ w ∈ u_ws RX3 TX3 2, w ∈ tb := by decide +kernel
theorem in_X4 : ∀ w ∈ u_ws RX4 TX4 3, w ∈ tb := by decide +kernel
theorem in_X5 : ∀ w ∈ u_ws RX5 TX5 5, w ∈ tb := by decide +kernel
theorem in_X6 : ∀ w ∈ u_ws RX6 TX6 11, w ∈ tb := by decide +kernel
theorem in_X7 : ∀ w ∈ u_ws RX7 TX7 39, w ∈ tb := by decide +kernel
def nests : List (String × Nat × MethodName × String) := [("RopeShelf", (27 : Nat), ({ cls := "RopeShelf$Text", name := "<init>", desc := "()V" } : Jvm.MethodName), "RopeShelf"), ("RopeShelf", (34 : Nat), ({ cls := "RopeShelf$Table", name := "<init>", desc := "()V" } : Jvm.MethodName), "RopeShelf"), ("RopeShelf", (41 : Nat), ({ cls := "RopeShelf$Pieces", name := "<init>", desc := "()V" } : Jvm.MethodName), "RopeShelf"), ("RopeShelf", (48 : Nat), ({ cls := "RopeShelf$Weaver", name := "<init>", desc := "()V" } : Jvm.MethodName), "RopeShelf"), ("RopeShelf$Weaver", (17 : Nat), ({ cls := "RopeShelf$Pieces", name := "<init>", desc := "()V" } : Jvm.MethodName), "RopeShelf"), ("RopeShelf$Weaver", (24 : Nat), ({ cls := "RopeShelf$Text", name := "<init>", desc := "()V" } : Jvm.MethodName), "RopeShelf"), ("RopeShelf", (55 : Nat), ({ cls := "RopeShelf$Walk", name := "<init>", desc := "()V" } : Jvm.MethodName), "RopeShelf"), ("RopeShelf", (113 : Nat), ({ cls := "RopeShelf$Weaver", name := "joined", desc := "(LRopeShelf$Cell;LRopeShelf$Cell;)LRopeShelf$Cell;" } : Jvm.MethodName), "RopeShelf"), ("RopeShelf$Weaver", (78 : Nat), ({ cls := "RopeShelf$Cell", name := "<init>", desc := "()V" } : Jvm.MethodName), "RopeShelf"), ("RopeShelf", (117 : Nat), ({ cls := "RopeShelf$Weaver", name := "cutOut", desc := "(LRopeShelf$Cell;III)LRopeShelf$Cell;" } : Jvm.MethodName), "RopeShelf")]
def rwL (j : Nat) : Int32 := match j with
  | 0 => nI 0
  | 1 => nI 1
  | _ => nI 1
def rwG (j : Nat) : Int32 := match j with
  | 0 => nI 32
  | 1 => nI 12
  | _ => nI 8
def kk (D : va_G) (cs sa : Nat → Nat) (A : Nat → Prop) (U : State) : Prop := va_K D classes (tys cs) U ∧ (∀ q ∈ nests, va_Nw (.methodLinkNest q.1 q.2.1 q.2.2.1 q.2.2.2) U) ∧ va_AO RX0 U ∧ (va_Z RX6 "LEAST_RULES" "[I" (.ref (sa 0)) A U U.heap ∧ va_T .int (sa 0) 3 (fun j => .int (rwL j)) A U U.heap) ∧ (va_Z RX6 "GREATEST_RULES" "[I" (.ref (sa 1)) A U U.heap ∧ va_T .int (sa 1) 3 (fun j => .int (rwG j)) A U U.heap)
theorem kk_KW (D : va_G) (cs sa : Nat → Nat) (A : Nat → Prop) : mm_KW (kk D cs sa A) A := by
  refine ⟨fun u U h hF hk => ⟨va_K.moved h.alike hk.1, fun q hq => va_Nw.warmM h (hk.2.1 q hq), va_AO.moved h.alike hk.2.2.1, ⟨(va_Z.moved h.alike hk.2.2.2.1.1).kept hF.2, (va_T.moved h.alike hk.2.2.2.1.2).kept hF.2⟩, ⟨(va_Z.moved h.alike hk.2.2.2.2.1).kept hF.2, (va_T.moved h.alike hk.2.2.2.2.2).kept hF.2⟩⟩, fun u U h hH hk => ?_⟩
  have ha : u.vm.Alike U.vm := h ▸ Vm.Alike.refl u.vm
  exact ⟨va_K.moved ha hk.1, fun q hq => va_Nw.same rfl h (hk.2.1 q hq), va_AO.moved ha hk.2.2.1, ⟨hH ▸ va_Z.moved ha hk.2.2.2.1.1, hH ▸ va_T.moved ha hk.2.2.2.1.2⟩, ⟨hH ▸ va_Z.moved ha hk.2.2.2.2.1, hH ▸ va_T.moved ha hk.2.2.2.2.2⟩⟩
def rf_len (k : Nat) : Nat := match k with
  | 0 => 20480
  | 1 => 20480
  | 2 => 20480
  | 3 => 20480
  | 4 => 20480
  | 7 => 81920
  | 9 => 8
  | 10 => 16
  | 11 => 2
  | 12 => 24
  | 13 => 24
  | 16 => 40
  | 21 => 240
  | 22 => 20480
  | 23 => 240
  | 25 => 512
  | 26 => 512
  | 27 => 512
  | 28 => 512
  | 29 => 512
  | 30 => 512
  | 32 => 512
  | 33 => 512
  | 34 => 512
  | 36 => 512
  | _ => 0
def rf_ty (k : Nat) : Nat := match k with
  | 0 => 1
  | 1 => 1
  | 2 => 1
  | 3 => 1
  | 4 => 2
  | 7 => 1
  | 9 => 1
  | 10 => 1
  | 11 => 2
  | 12 => 1
  | 13 => 1
  | 16 => 1
  | 21 => 1
  | 22 => 1
  | 23 => 1
  | 25 => 1
  | 26 => 1
  | 27 => 1
  | 28 => 1
  | 29 => 2
  | 30 => 1
  | 32 => 1
  | 33 => 1
  | 34 => 1
  | 36 => 1
  | _ => 0
def rf_fm (i : Nat) : Option Nat := match i with
  | 7 => some 0
  | 13 => some 1
  | 16 => some 2
  | 19 => some 3
  | 22 => some 4
  | 26 => some 5
  | 31 => some 7
  | 34 => some 9
  | 37 => some 10
  | 40 => some 11
  | 43 => some 12
  | 46 => some 13
  | 49 => some 16
  | 52 => some 18
  | 55 => some 19
  | 58 => some 20
  | 61 => some 21
  | 64 => some 22
  | 67 => some 23
  | 70 => some 25
  | 73 => some 26
  | 76 => some 27
  | 79 => some 28
  | 82 => some 29
  | 85 => some 30
  | 88 => some 32
  | 91 => some 33
  | 94 => some 34
  | 97 => some 36
  | 108 => some 6
  | 111 => some 8
  | 129 => some 14
  | 135 => some 24
  | 144 => some 31
  | 161 => some 35
  | 178 => some 17
  | 200 => some 37
  | 203 => some 38
  | 224 => some 15
  | _ => none
def rf_cst (i : Nat) : Option Int32 := match i with
  | 30 => some (nI 81920)
  | 122 => some (nI 76720)
  | _ => none
def rf_up (g : Nat → Nat → Int32) (f i : Nat) (v : Int32) : Nat → Nat → Int32 := fun j => if j = f then upd (g f) i v else g j
def rf_fs (ad : Nat → Nat) (μ : rf_M) : List Value := [.ref (ad 0), .ref (ad 1), .ref (ad 2), .ref (ad 3), .ref (ad 4), .int (μ.1 5), .int (μ.1 6), .ref (ad 7), .int (μ.1 8), .ref (ad 9), .ref (ad 10), .ref (ad 11), .ref (ad 12), .ref (ad 13), .int (μ.1 14), .int (μ.1 15), .ref (ad 16), .int (μ.1 17), .int (μ.1 18), .int (μ.1 19), .int (μ.1 20), .ref (ad 21), .ref (ad 22), .ref (ad 23), .int (μ.1 24), .ref (ad 25), .ref (ad 26), .ref (ad 27), .ref (ad 28), .ref (ad 29), .ref (ad 30), .int (μ.1 31), .ref (ad 32), .ref (ad 33), .ref (ad 34), .int (μ.1 35), .ref (ad 36), .int (μ.1 37), .int (μ.1 38)]
def rf_ws (cs ad : Nat → Nat) (μ : rf_M) : va_W := (ad 39, .inr (7, rf_fs ad μ)) :: [(ad 0, .inl (cs 0, 20480, .inl (μ.2 0))), (ad 1, .inl (cs 0, 20480, .inl (μ.2 1))), (ad 2, .inl (cs 0, 20480, .inl (μ.2 2))), (ad 3, .inl (cs 0, 20480, .inl (μ.2 3))), (ad 4, .inl (cs 1, 20480, .inl (μ.2 4))), (ad 7, .inl (cs 0, 81920, .inl (μ.2 7))), (ad 9, .inl (cs 0, 8, .inl (μ.2 9))), (ad 10, .inl (cs 0, 16, .inl (μ.2 10))), (ad 11, .inl (cs 1, 2, .inl (μ.2 11))), (ad 12, .inl (cs 0, 24, .inl (μ.2 12))), (ad 13, .inl (cs 0, 24, .inl (μ.2 13))), (ad 16, .inl (cs 0, 40, .inl (μ.2 16))), (ad 21, .inl (cs 0, 240, .inl (μ.2 21))), (ad 22, .inl (cs 0, 20480, .inl (μ.2 22))), (ad 23, .inl (cs 0, 240, .inl (μ.2 23))), (ad 25, .inl (cs 0, 512, .inl (μ.2 25))), (ad 26, .inl (cs 0, 512, .inl (μ.2 26))), (ad 27, .inl (cs 0, 512, .inl (μ.2 27))), (ad 28, .inl (cs 0, 512, .inl (μ.2 28))), (ad 29, .inl (cs 1, 512, .inl (μ.2 29))), (ad 30, .inl (cs 0, 512, .inl (μ.2 30))), (ad 32, .inl (cs 0, 512, .inl (μ.2 32))), (ad 33, .inl (cs 0, 512, .inl (μ.2 33))), (ad 34, .inl (cs 0, 512, .inl (μ.2 34))), (ad 36, .inl (cs 0, 512, .inl (μ.2 36)))]
def rf_W (D : va_G) (cs ad : Nat → Nat) (A : Nat → Prop) (μ : rf_M) (H : Heap) : Prop := va_P D classes (rf_ws cs ad μ) H ∧ va_D A (rf_ws cs ad μ)
def rf_hk : mH rf_M := fun ins st μ a b k => match ins with
  | .getfield i => (match st with
    | .inr (some 39) :: st' => (match rf_fm i with
      | some f => (match rf_ty f with
        | 0 => k (.inl (μ.1 f) :: st') μ a b
        | _ => k (.inr (some f) :: st') μ a b)
      | none => False)
    | _ => False)
  | .putfield i => (match st with
    | .inl v :: .inr (some 39) :: st' => (match rf_fm i with
      | some f => (match rf_ty f with
        | 0 => k st' (upd μ.1 f v, μ.2) a b
        | _ => False)
      | none => False)
    | _ => False)
  | .iaload => (match st with
    | .inl i :: .inr (some f) :: st' => (match rf_ty f with
      | 1 => vp_in i (rf_len f) ∧ k (.inl (μ.2 f i.toNatClampNeg) :: st') μ a b
      | _ => False)
    | _ => False)
  | .baload => (match st with
    | .inl i :: .inr (some f) :: st' => (match rf_ty f with
      | 2 => vp_in i (rf_len f) ∧ k (.inl (μ.2 f i.toNatClampNeg) :: st') μ a b
      | _ => False)
    | _ => False)
  | .iastore => (match st with
    | .inl v :: .inl i :: .inr (some f) :: st' => (match rf_ty f with
      | 1 => vp_in i (rf_len f) ∧ k st' (μ.1, rf_up μ.2 f i.toNatClampNeg v) a b
      | _ => False)
    | _ => False)
  | .bastore => (match st with
    | .inl v :: .inl i :: .inr (some f) :: st' => (match rf_ty f with
      | 2 => vp_in i (rf_len f) ∧ (v = 0 ∨ v = 1) ∧ k st' (μ.1, rf_up μ.2 f i.toNatClampNeg v) a b
      | _ => False)
    | _ => False)
  | .ldc i => (match rf_cst i with
    | some v => k (.inl v :: st) μ a b
    | none => False)
  | _ => False
set_option maxHeartbeats 4000000 in
theorem rf_hk_mono : mH_mono rf_hk := by
  intro ins st s a b k k' h h1
  unfold rf_hk at *
  split at h1
  all_goals (try exact h1.elim)
  · split at h1 <;> (try exact h1.elim)
    split at h1 <;> (try exact h1.elim)
    split at h1 <;> exact h _ _ _ _ h1
  · split at h1 <;> (try exact h1.elim)
    split at h1 <;> (try exact h1.elim)
    split at h1 <;> (first | exact h _ _ _ _ h1 | exact h1.elim)
  · split at h1 <;> (try exact h1.elim)
    split at h1 <;> (first | exact ⟨h1.1, h _ _ _ _ h1.2⟩ | exact h1.elim)
  · split at h1 <;> (try exact h1.elim)
    split at h1 <;> (first | exact ⟨h1.1, h _ _ _ _ h1.2⟩ | exact h1.elim)
  · split at h1 <;> (try exact h1.elim)
    split at h1 <;> (first | exact ⟨h1.1, h _ _ _ _ h1.2⟩ | exact h1.elim)
  · split at h1 <;> (try exact h1.elim)
    split at h1 <;> (first | exact ⟨h1.1, h1.2.1, h _ _ _ _ h1.2.2⟩ | exact h1.elim)
  · split at h1 <;> (first | exact h _ _ _ _ h1 | exact h1.elim)
