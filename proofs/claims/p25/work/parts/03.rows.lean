/-! whole numbers for ints and longs: i32, i64 are ring homomorphisms -/
def i32 (z : Int) : Int32 := Int32.ofInt z
def i64 (z : Int) : Int64 := Int64.ofInt z
abbrev rng (a : Int) : Prop := -2147483648 ≤ a ∧ a < 2147483648
abbrev rngL (a : Int) : Prop := -9223372036854775808 ≤ a ∧ a < 9223372036854775808
theorem i32_add (a b : Int) : i32 a + i32 b = i32 (a + b) := (Int32.ofInt_add a b).symm
theorem i32_sub (a b : Int) : i32 a - i32 b = i32 (a - b) := (Int32.ofInt_sub a b).symm
theorem i32_mul (a b : Int) : i32 a * i32 b = i32 (a * b) := (Int32.ofInt_mul a b).symm
theorem i64_add (a b : Int) : i64 a + i64 b = i64 (a + b) := (Int64.ofInt_add a b).symm
theorem i64_sub (a b : Int) : i64 a - i64 b = i64 (a - b) := (Int64.ofInt_sub a b).symm
theorem i64_mul (a b : Int) : i64 a * i64 b = i64 (a * b) := (Int64.ofInt_mul a b).symm
theorem i32_toInt {a : Int} (h : rng a) : (i32 a).toInt = a := Int32.toInt_ofInt_of_le (by have := h.1; omega) (by have := h.2; omega)
theorem i64_toInt {a : Int} (h : rngL a) : (i64 a).toInt = a := Int64.toInt_ofInt_of_le (by have := h.1; omega) (by have := h.2; omega)
theorem i32_of (x : Int32) : ∃ a, rng a ∧ x = i32 a := ⟨x.toInt, ⟨by have := Int32.le_toInt x; omega, by have := Int32.toInt_lt x; omega⟩, (Int32.ofInt_toInt x).symm⟩
theorem i32_asI (x : Int32) : i32 x.toInt = x := Int32.ofInt_toInt x
theorem i64_asI (x : Int64) : i64 x.toInt = x := Int64.ofInt_toInt x
theorem i32_rng (x : Int32) : rng x.toInt := ⟨by have := Int32.le_toInt x; omega, by have := Int32.toInt_lt x; omega⟩
theorem i64_rng (x : Int64) : rngL x.toInt := ⟨by have := Int64.le_toInt x; omega, by have := Int64.toInt_lt x; omega⟩
theorem i32_lt {a b : Int} (ha : rng a) (hb : rng b) : i32 a < i32 b ↔ a < b := by rw [Int32.lt_iff_toInt_lt, i32_toInt ha, i32_toInt hb]
theorem i32_le {a b : Int} (ha : rng a) (hb : rng b) : i32 a ≤ i32 b ↔ a ≤ b := by rw [Int32.le_iff_toInt_le, i32_toInt ha, i32_toInt hb]
theorem i32_eq {a b : Int} (ha : rng a) (hb : rng b) : i32 a = i32 b ↔ a = b := by rw [← Int32.toInt_inj, i32_toInt ha, i32_toInt hb]
theorem rng0 : rng 0 := by constructor <;> decide
theorem i32_0 : (0 : Int32) = i32 0 := rfl
theorem i32_clamp {a : Int} (h0 : 0 ≤ a) (h : a < 2147483648) : (i32 a).toNatClampNeg = a.toNat := by
  show (i32 a).toInt.toNat = a.toNat
  rw [i32_toInt ⟨by omega, h⟩]
theorem i32_vin {a : Int} {n : Nat} (h0 : 0 ≤ a) (h : a < (n : Int)) (hn : n ≤ 1000000) : vp_in (i32 a) n := by
  rw [vp_in_iff, i32_toInt ⟨by omega, by omega⟩]
  exact ⟨h0, h⟩
/-- exact words for what isn't plus, minus, times -/
def jand (a b : Int) : Int := (i32 a &&& i32 b).toInt
def jor (a b : Int) : Int := (i32 a ||| i32 b).toInt
def jxor (a b : Int) : Int := (i32 a ^^^ i32 b).toInt
def jshl (a b : Int) : Int := (i32 a <<< (i32 b &&& 31)).toInt
def jshr (a b : Int) : Int := (i32 a >>> (i32 b &&& 31)).toInt
def jdiv (a b : Int) : Int := (i32 a / i32 b).toInt
def jrem (a b : Int) : Int := (i32 a - i32 a / i32 b * i32 b).toInt
def kand (a b : Int) : Int := (i64 a &&& i64 b).toInt
def kor (a b : Int) : Int := (i64 a ||| i64 b).toInt
def kshl (a b : Int) : Int := (i64 a <<< ((i32 b).toInt64 &&& 63)).toInt
def kshr (a b : Int) : Int := (i64 a >>> ((i32 b).toInt64 &&& 63)).toInt
def kushr (a b : Int) : Int := ((i64 a).toUInt64 >>> ((i32 b).toInt64.toUInt64 &&& Int64.toUInt64 63)).toInt64.toInt
def jlcmp (a b : Int) : Int := (lg_cmp (i64 a) (i64 b)).toInt
def jmin (a b : Int) : Int := if b < a then b else a
def jmax (a b : Int) : Int := if a < b then b else a
/-! tables of numbers: region, place -/
abbrev xS : Type := Nat → Nat → Int
def xup (σ : xS) (r k : Nat) (v : Int) : xS := fun r' => if r' = r then (fun j => if j = k then v else σ r j) else σ r'
def xset (σ : xS) (r : Nat) (f : Nat → Int) : xS := fun r' => if r' = r then f else σ r'
theorem xup_ne {σ : xS} {r k : Nat} {v : Int} {r' : Nat} (h : r' ≠ r) : xup σ r k v r' = σ r' := if_neg h
theorem xup_eq {σ : xS} {r k : Nat} {v : Int} : xup σ r k v r = fun j => if j = k then v else σ r j := if_pos rfl
theorem xset_ne {σ : xS} {r : Nat} {f : Nat → Int} {r' : Nat} (h : r' ≠ r) : xset σ r f r' = σ r' := if_neg h
theorem xset_eq {σ : xS} {r : Nat} {f : Nat → Int} : xset σ r f r = f := if_pos rfl
theorem xup_set (σ : xS) (r k : Nat) (v : Int) : xup σ r k v = xset σ r (fun j => if j = k then v else σ r j) := rfl
theorem xset_set (σ : xS) (r : Nat) (f g : Nat → Int) : xset (xset σ r f) r g = xset σ r g := by
  funext r'
  by_cases h : r' = r <;> simp [xset, h]
theorem xset_self (σ : xS) (r : Nat) : xset σ r (σ r) = σ := by
  funext r'
  by_cases h : r' = r <;> simp [xset, h]
theorem xup_xset (σ : xS) (r k : Nat) (v : Int) (f : Nat → Int) : xup (xset σ r f) r k v = xset σ r (fun j => if j = k then v else f j) := by
  rw [xup_set, xset_set, xset_eq]
theorem xupd_i (f : Nat → Int) (k : Nat) (v : Int) : upd (fun j => i32 (f j)) k (i32 v) = fun j => i32 (if j = k then v else f j) := by
  funext j
  by_cases h : j = k <;> simp [upd, h]
theorem xupd_l (f : Nat → Int) (k : Nat) (v : Int) : vp_updL (fun j => i64 (f j)) k (i64 v) = fun j => i64 (if j = k then v else f j) := by
  funext j
  by_cases h : j = k <;> simp [vp_updL, h]
/-! loops: a predicate transformer, so and so often -/
def itr {α : Type} (f : (α → Prop) → α → Prop) : Nat → α → Prop
  | 0 => fun _ => False
  | n + 1 => f (itr f n)
def mu {α : Type} (f : (α → Prop) → α → Prop) (a : α) : Prop := ∃ n, itr f n a
theorem mu_ind {α : Type} {f : (α → Prop) → α → Prop} {P : α → Prop} (h : ∀ K : α → Prop, (∀ a, K a → P a) → ∀ a, f K a → P a) : ∀ a, mu f a → P a := by
  have key : ∀ n a, itr f n a → P a := by
    intro n
    induction n with
    | zero => exact fun a h => False.elim h
    | succ n ih => exact fun a h' => h _ ih a h'
  exact fun a ⟨n, h'⟩ => key n a h'
theorem mu_of {α : Type} {f : (α → Prop) → α → Prop} (I : α → Prop) (μ : α → Nat) (h : ∀ (K : α → Prop) (a : α), I a → (∀ b, I b → μ b < μ a → K b) → f K a) : ∀ a, I a → mu f a := by
  have key : ∀ n a, I a → μ a < n → itr f n a := by
    intro n
    induction n with
    | zero => exact fun a _ h => absurd h (Nat.not_lt_zero _)
    | succ n ih => exact fun a ha hn => h _ a ha fun b hb hl => ih b hb (by omega)
  exact fun a ha => ⟨μ a + 1, key _ a ha (Nat.lt_succ_self _)⟩
/-! locals, in the order of their numbers -/
def lset (l : List (Nat × Value)) (i : Nat) (v : Value) : List (Nat × Value) :=
  l.filter (fun q => decide (q.1 < i) && !(q.1 + 1 == i && q.2.category == 2)) ++ (i, v) :: l.filter (fun q => decide (i < q.1) && !(v.category == 2 && q.1 == i + 1))
theorem lset_1 {ls : Array Slot} {n i : Nat} {v : Value} {l : List (Nat × Value)} (hv : v.category = 1) (h : lv_has ls n ((i, v) :: l.filter (fun q => !(q.1 == i) && !(q.1 + 1 == i && q.2.category == 2)))) : lv_has ls n (lset l i v) := by
  refine ⟨h.1, h.2.1, fun q hq => h.2.2 q ?_⟩
  rcases List.mem_append.mp hq with h1 | h1
  · obtain ⟨a, b⟩ := List.mem_filter.mp h1
    simp only [Bool.and_eq_true, decide_eq_true_eq] at b
    refine List.mem_cons_of_mem _ (List.mem_filter.mpr ⟨a, ?_⟩)
    have hne : ¬ q.1 = i := by omega
    simp [hne]
    simpa using b.2
  · rcases List.mem_cons.mp h1 with h2 | h2
    · rw [h2]; exact List.mem_cons_self
    · obtain ⟨a, b⟩ := List.mem_filter.mp h2
      simp only [Bool.and_eq_true, decide_eq_true_eq] at b
      refine List.mem_cons_of_mem _ (List.mem_filter.mpr ⟨a, ?_⟩)
      have hne : ¬ q.1 = i := by omega
      have hne2 : ¬ q.1 + 1 = i := by omega
      simp [hne, hne2]
theorem lset_2 {ls : Array Slot} {n i : Nat} {v : Value} {l : List (Nat × Value)} (hv : v.category = 2) (h : lv_has ls n ((i, v) :: l.filter (fun q => !(q.1 == i) && (!(q.1 == i + 1) && !(q.1 + 1 == i && q.2.category == 2))))) : lv_has ls n (lset l i v) := by
  refine ⟨h.1, h.2.1, fun q hq => h.2.2 q ?_⟩
  rcases List.mem_append.mp hq with h1 | h1
  · obtain ⟨a, b⟩ := List.mem_filter.mp h1
    simp only [Bool.and_eq_true, decide_eq_true_eq] at b
    refine List.mem_cons_of_mem _ (List.mem_filter.mpr ⟨a, ?_⟩)
    have hne : ¬ q.1 = i := by omega
    have hne2 : ¬ q.1 = i + 1 := by omega
    simp [hne, hne2]
    simpa using b.2
  · rcases List.mem_cons.mp h1 with h2 | h2
    · rw [h2]; exact List.mem_cons_self
    · obtain ⟨a, b⟩ := List.mem_filter.mp h2
      simp only [Bool.and_eq_true, decide_eq_true_eq, hv] at b
      refine List.mem_cons_of_mem _ (List.mem_filter.mpr ⟨a, ?_⟩)
      have hne : ¬ q.1 = i := by omega
      have hne2 : ¬ q.1 + 1 = i := by omega
      have hne3 : ¬ q.1 = i + 1 := by simpa using b.2
      simp [hne, hne2, hne3]
/-! nest mates -/
def xNw (U : State) : Prop := va_Nw (.methodLinkNest RX4 18 yX1_init RX4) U ∧ va_Nw (.methodLinkNest RX4 25 yX3_init RX4) U
def xE (z : Prop) (_ : Nat → Prop) (U : State) (_ : Heap) : Prop := z → xNw U
theorem xE.warm {z : Prop} {A : Nat → Prop} {u U : State} {H : Heap} (hW : u.WarmedH U.vm) (h : xE z A u H) : xE z A U H := fun hz => by
  obtain ⟨n1, n2⟩ := h hz
  exact ⟨n1.warmM hW, n2.warmM hW⟩
theorem xE.same {z : Prop} {A : Nat → Prop} {u U : State} {H : Heap} (hv : u.vm = U.vm) (h : xE z A u H) : xE z A U H := fun hz => by
  obtain ⟨n1, n2⟩ := h hz
  exact ⟨n1.same rfl hv, n2.same rfl hv⟩
theorem xE.kept {z : Prop} {A : Nat → Prop} {U : State} {H H1 : Heap} (h : xE z A U H) (_ : ∀ a : Nat, a < H.size → ¬ A a → H1[a]? = H[a]?) : xE z A U H1 := h
theorem xE.narrow {z : Prop} {A B : Nat → Prop} {U : State} {H : Heap} (h : xE z A U H) (_ : ∀ q, B q → A q) : xE z B U H := h
theorem xE.weaken {z z' : Prop} (hz : z' → z) {A : Nat → Prop} {U : State} {H : Heap} (h : xE z A U H) : xE z' A U H := fun q => h (hz q)
/-! the judgement -/
def xC (z : Prop) (p : Program) (s : State) (m : MethodId) (args : Array Value) (meth : Method) (c : Code) (cc : ByteArray) (nL : Nat) (own : String) (Ts : List Cond) (D : va_G) (cl : List vw_C) (tys : List (ClassId × FieldType)) (A : Nat → Prop) : Prop :=
  p.tables.exec = Jvm.exec ∧ c.code = cc ∧ c.maxLocals = nL ∧ s.vm.findClass own = some m.cls ∧ (∀ w ∈ Ts, w.before args s = true) ∧ va_K D cl tys s ∧ (∀ q : Nat, s.heap.size ≤ q → A q) ∧ meth.locks = false ∧ xE z A s s.heap
def xX (p : Program) (l : Launch) (e : Env) (R : Room) (s : State) (m : MethodId) (args : Array Value) (below : List Frame) (meth : Method) (c : Code) (D : va_G) (cl : List vw_C) (A : Nat → Prop) (w : xS → va_W) (F : List Nat) (σ0 : xS) (cells slots : Nat) (Q : State → Prop) (nL : Nat) (σ : xS) (pc : Nat) (lv : List (Nat × Value)) (st : List Value) : Prop :=
  (∀ k, k ∉ F → σ k = σ0 k) → ∀ (H : Heap) (locs : List Loc) (ls : Array Slot), va_P D cl (w σ) H → va_D A (w σ) → va_S A s.heap H locs → lv_has ls nL lv → W p l e R s m args below meth c H locs cells slots Q (F0 m pc ls st)
section XR
variable {p : Program} {l : Launch} {e : Env} {R : Room} {s : State} {m : MethodId} {args : Array Value} {below : List Frame} {meth : Method} {c : Code} {D : va_G} {cl : List vw_C} {tys : List (ClassId × FieldType)} {A : Nat → Prop} {w : xS → va_W} {F : List Nat} {σ0 : xS} {cells slots : Nat} {Q : State → Prop} {nL : Nat} {σ : xS} {pc : Nat} {lv : List (Nat × Value)} {st : List Value} {z : Prop} {cc : ByteArray} {own : String} {Ts : List Cond}
theorem xr_iconst (C : xC z p s m args meth c cc nL own Ts D cl tys A) {n : Int} (d : decode cc pc = .ok (.iconst n, 1)) (k : xX p l e R s m args below meth c D cl A w F σ0 cells slots Q nL σ (pc + 1) lv (.int (i32 n) :: st)) : xX p l e R s m args below meth c D cl A w F σ0 cells slots Q nL σ (pc) lv (st) := by
  intro hF H locs ls hP hD hS hl
  exact lv_iconst C.1 C.2.1 d rfl (k hF H locs ls hP hD hS hl)
theorem xr_bipush (C : xC z p s m args meth c cc nL own Ts D cl tys A) {n : Int} (d : decode cc pc = .ok (.bipush n, 2)) (hv : (Int8.ofInt n).toInt32 = i32 n) (k : xX p l e R s m args below meth c D cl A w F σ0 cells slots Q nL σ (pc + 2) lv (.int (i32 n) :: st)) : xX p l e R s m args below meth c D cl A w F σ0 cells slots Q nL σ (pc) lv (st) := by
  intro hF H locs ls hP hD hS hl
  exact lv_bipush C.1 C.2.1 d hv (k hF H locs ls hP hD hS hl)
theorem xr_sipush (C : xC z p s m args meth c cc nL own Ts D cl tys A) {n : Int} (d : decode cc pc = .ok (.sipush n, 3)) (hv : (Int16.ofInt n).toInt32 = i32 n) (k : xX p l e R s m args below meth c D cl A w F σ0 cells slots Q nL σ (pc + 3) lv (.int (i32 n) :: st)) : xX p l e R s m args below meth c D cl A w F σ0 cells slots Q nL σ (pc) lv (st) := by
  intro hF H locs ls hP hD hS hl
  exact lv_sipush C.1 C.2.1 d hv (k hF H locs ls hP hD hS hl)
theorem xr_lconst (C : xC z p s m args meth c cc nL own Ts D cl tys A) {n : Fin 2} (v : Int) (d : decode cc pc = .ok (.lconst n, 1)) (hv : Int64.ofNat (n : Nat) = i64 v) (k : xX p l e R s m args below meth c D cl A w F σ0 cells slots Q nL σ (pc + 1) lv (.long (i64 v) :: st)) : xX p l e R s m args below meth c D cl A w F σ0 cells slots Q nL σ (pc) lv (st) := by
  intro hF H locs ls hP hD hS hl
  exact lv_lconst C.1 C.2.1 d hv (k hF H locs ls hP hD hS hl)
theorem xr_ldc (C : xC z p s m args meth c cc nL own Ts D cl tys A) {ix : Nat} {x : Int32} (v : Int) (hc : Jvm.Cond.constant own ix x ∈ Ts) (hv : x = i32 v) (d : decode cc pc = .ok (.ldc ix, 2)) (k : xX p l e R s m args below meth c D cl A w F σ0 cells slots Q nL σ (pc + 2) lv (.int (i32 v) :: st)) : xX p l e R s m args below meth c D cl A w F σ0 cells slots Q nL σ (pc) lv (st) := by
  intro hF H locs ls hP hD hS hl
  subst hv
  exact lv_ldc C.1 C.2.1 C.2.2.2.1 (C.2.2.2.2.1 _ hc) d (k hF H locs ls hP hD hS hl)
theorem xr_ldc2 (C : xC z p s m args meth c cc nL own Ts D cl tys A) {ix : Nat} {x : Int64} (v : Int) (hc : Jvm.Cond.constantLong own ix x ∈ Ts) (hv : x = i64 v) (d : decode cc pc = .ok (.ldc2_w ix, 3)) (k : xX p l e R s m args below meth c D cl A w F σ0 cells slots Q nL σ (pc + 3) lv (.long (i64 v) :: st)) : xX p l e R s m args below meth c D cl A w F σ0 cells slots Q nL σ (pc) lv (st) := by
  intro hF H locs ls hP hD hS hl
  subst hv
  exact lv_ldc2 C.1 C.2.1 C.2.2.2.1 (C.2.2.2.2.1 _ hc) d (k hF H locs ls hP hD hS hl)
theorem xr_iload_n (C : xC z p s m args meth c cc nL own Ts D cl tys A) (q : Nat) {k0 : Fin 4} {i : Nat} {x : Int} (d : decode cc pc = .ok (.iload_n k0, 1)) (hi : (k0 : Nat) = i) (hq : lv[q]? = some (i, .int (i32 x))) (k : xX p l e R s m args below meth c D cl A w F σ0 cells slots Q nL σ (pc + 1) lv (.int (i32 x) :: st)) : xX p l e R s m args below meth c D cl A w F σ0 cells slots Q nL σ (pc) lv (st) := by
  intro hF H locs ls hP hD hS hl
  exact lv_iload_n C.1 C.2.1 d hi (lv_at hl q hq) (k hF H locs ls hP hD hS hl)
theorem xr_iload (C : xC z p s m args meth c cc nL own Ts D cl tys A) (q : Nat) {i : Nat} {x : Int} (d : decode cc pc = .ok (.iload i, 2)) (hq : lv[q]? = some (i, .int (i32 x))) (k : xX p l e R s m args below meth c D cl A w F σ0 cells slots Q nL σ (pc + 2) lv (.int (i32 x) :: st)) : xX p l e R s m args below meth c D cl A w F σ0 cells slots Q nL σ (pc) lv (st) := by
  intro hF H locs ls hP hD hS hl
  exact lv_iload C.1 C.2.1 d (lv_at hl q hq) (k hF H locs ls hP hD hS hl)
theorem xr_lload_n (C : xC z p s m args meth c cc nL own Ts D cl tys A) (q : Nat) {k0 : Fin 4} {i : Nat} {x : Int} (d : decode cc pc = .ok (.lload_n k0, 1)) (hi : (k0 : Nat) = i) (hq : lv[q]? = some (i, .long (i64 x))) (k : xX p l e R s m args below meth c D cl A w F σ0 cells slots Q nL σ (pc + 1) lv (.long (i64 x) :: st)) : xX p l e R s m args below meth c D cl A w F σ0 cells slots Q nL σ (pc) lv (st) := by
  intro hF H locs ls hP hD hS hl
  exact lv_lload_n C.1 C.2.1 d hi (lv_at hl q hq) (k hF H locs ls hP hD hS hl)
theorem xr_lload (C : xC z p s m args meth c cc nL own Ts D cl tys A) (q : Nat) {i : Nat} {x : Int} (d : decode cc pc = .ok (.lload i, 2)) (hq : lv[q]? = some (i, .long (i64 x))) (k : xX p l e R s m args below meth c D cl A w F σ0 cells slots Q nL σ (pc + 2) lv (.long (i64 x) :: st)) : xX p l e R s m args below meth c D cl A w F σ0 cells slots Q nL σ (pc) lv (st) := by
  intro hF H locs ls hP hD hS hl
  exact lv_lload C.1 C.2.1 d (lv_at hl q hq) (k hF H locs ls hP hD hS hl)
theorem xr_aload_n (C : xC z p s m args meth c cc nL own Ts D cl tys A) (q : Nat) {k0 : Fin 4} {i : Nat} {x : Nat} (d : decode cc pc = .ok (.aload_n k0, 1)) (hi : (k0 : Nat) = i) (hq : lv[q]? = some (i, .ref x)) (k : xX p l e R s m args below meth c D cl A w F σ0 cells slots Q nL σ (pc + 1) lv (.ref x :: st)) : xX p l e R s m args below meth c D cl A w F σ0 cells slots Q nL σ (pc) lv (st) := by
  intro hF H locs ls hP hD hS hl
  exact lv_aload_n C.1 C.2.1 d hi (lv_at hl q hq) (k hF H locs ls hP hD hS hl)
theorem xr_aload (C : xC z p s m args meth c cc nL own Ts D cl tys A) (q : Nat) {i : Nat} {x : Nat} (d : decode cc pc = .ok (.aload i, 2)) (hq : lv[q]? = some (i, .ref x)) (k : xX p l e R s m args below meth c D cl A w F σ0 cells slots Q nL σ (pc + 2) lv (.ref x :: st)) : xX p l e R s m args below meth c D cl A w F σ0 cells slots Q nL σ (pc) lv (st) := by
  intro hF H locs ls hP hD hS hl
  exact lv_aload C.1 C.2.1 d (lv_at hl q hq) (k hF H locs ls hP hD hS hl)
theorem xr_istore_n (C : xC z p s m args meth c cc nL own Ts D cl tys A) (lv2 : List (Nat × Value)) {k0 : Fin 4} {i : Nat} {x : Int} (d : decode cc pc = .ok (.istore_n k0, 1)) (hi : (k0 : Nat) = i) (hn : i < nL) (h2 : lset lv i (.int (i32 x)) = lv2) (k : xX p l e R s m args below meth c D cl A w F σ0 cells slots Q nL σ (pc + 1) lv2 (st)) : xX p l e R s m args below meth c D cl A w F σ0 cells slots Q nL σ (pc) lv (.int (i32 x) :: st) := by
  intro hF H locs ls hP hD hS hl
  exact lv_istore_n C.1 C.2.1 d hi hl hn rfl (fun ls2 hl2 => k hF H locs ls2 hP hD hS (h2 ▸ lset_1 rfl hl2))
theorem xr_istore (C : xC z p s m args meth c cc nL own Ts D cl tys A) (lv2 : List (Nat × Value)) {i : Nat} {x : Int} (d : decode cc pc = .ok (.istore i, 2)) (hn : i < nL) (h2 : lset lv i (.int (i32 x)) = lv2) (k : xX p l e R s m args below meth c D cl A w F σ0 cells slots Q nL σ (pc + 2) lv2 (st)) : xX p l e R s m args below meth c D cl A w F σ0 cells slots Q nL σ (pc) lv (.int (i32 x) :: st) := by
  intro hF H locs ls hP hD hS hl
  exact lv_istore C.1 C.2.1 d hl hn rfl (fun ls2 hl2 => k hF H locs ls2 hP hD hS (h2 ▸ lset_1 rfl hl2))
theorem xr_lstore_n (C : xC z p s m args meth c cc nL own Ts D cl tys A) (lv2 : List (Nat × Value)) {k0 : Fin 4} {i : Nat} {x : Int} (d : decode cc pc = .ok (.lstore_n k0, 1)) (hi : (k0 : Nat) = i) (hn : i + 1 < nL) (h2 : lset lv i (.long (i64 x)) = lv2) (k : xX p l e R s m args below meth c D cl A w F σ0 cells slots Q nL σ (pc + 1) lv2 (st)) : xX p l e R s m args below meth c D cl A w F σ0 cells slots Q nL σ (pc) lv (.long (i64 x) :: st) := by
  intro hF H locs ls hP hD hS hl
  exact lv_lstore_n C.1 C.2.1 d hi hl hn rfl (fun ls2 hl2 => k hF H locs ls2 hP hD hS (h2 ▸ lset_2 rfl hl2))
theorem xr_lstore (C : xC z p s m args meth c cc nL own Ts D cl tys A) (lv2 : List (Nat × Value)) {i : Nat} {x : Int} (d : decode cc pc = .ok (.lstore i, 2)) (hn : i + 1 < nL) (h2 : lset lv i (.long (i64 x)) = lv2) (k : xX p l e R s m args below meth c D cl A w F σ0 cells slots Q nL σ (pc + 2) lv2 (st)) : xX p l e R s m args below meth c D cl A w F σ0 cells slots Q nL σ (pc) lv (.long (i64 x) :: st) := by
  intro hF H locs ls hP hD hS hl
  exact lv_lstore C.1 C.2.1 d hl hn rfl (fun ls2 hl2 => k hF H locs ls2 hP hD hS (h2 ▸ lset_2 rfl hl2))
theorem xr_astore_n (C : xC z p s m args meth c cc nL own Ts D cl tys A) (lv2 : List (Nat × Value)) {k0 : Fin 4} {i : Nat} {x : Nat} (d : decode cc pc = .ok (.astore_n k0, 1)) (hi : (k0 : Nat) = i) (hn : i < nL) (h2 : lset lv i (.ref x) = lv2) (k : xX p l e R s m args below meth c D cl A w F σ0 cells slots Q nL σ (pc + 1) lv2 (st)) : xX p l e R s m args below meth c D cl A w F σ0 cells slots Q nL σ (pc) lv (.ref x :: st) := by
  intro hF H locs ls hP hD hS hl
  exact lv_astore_n C.1 C.2.1 d hi hl hn rfl (fun ls2 hl2 => k hF H locs ls2 hP hD hS (h2 ▸ lset_1 rfl hl2))
theorem xr_astore (C : xC z p s m args meth c cc nL own Ts D cl tys A) (lv2 : List (Nat × Value)) {i : Nat} {x : Nat} (d : decode cc pc = .ok (.astore i, 2)) (hn : i < nL) (h2 : lset lv i (.ref x) = lv2) (k : xX p l e R s m args below meth c D cl A w F σ0 cells slots Q nL σ (pc + 2) lv2 (st)) : xX p l e R s m args below meth c D cl A w F σ0 cells slots Q nL σ (pc) lv (.ref x :: st) := by
  intro hF H locs ls hP hD hS hl
  exact lv_astore C.1 C.2.1 d hl hn rfl (fun ls2 hl2 => k hF H locs ls2 hP hD hS (h2 ▸ lset_1 rfl hl2))
theorem xr_iinc (C : xC z p s m args meth c cc nL own Ts D cl tys A) (q : Nat) (lv2 : List (Nat × Value)) {i : Nat} {n x : Int} (d : decode cc pc = .ok (.iinc i n, 3)) (hq : lv[q]? = some (i, .int (i32 x))) (hn : i < nL) (h2 : lset lv i (.int (i32 (x + n))) = lv2) (k : xX p l e R s m args below meth c D cl A w F σ0 cells slots Q nL σ (pc + 3) lv2 (st)) : xX p l e R s m args below meth c D cl A w F σ0 cells slots Q nL σ (pc) lv (st) := by
  intro hF H locs ls hP hD hS hl
  exact lv_iinc C.1 C.2.1 (v := i32 (x + n)) d hl hq (i32_add x n) hn rfl (fun ls2 hl2 => k hF H locs ls2 hP hD hS (h2 ▸ lset_1 rfl hl2))
theorem xr_sub (C : xC z p s m args meth c cc nL own Ts D cl tys A) (ks : List Nat) (lv2 : List (Nat × Value)) (h2 : lv_pick lv ks = lv2) (k : xX p l e R s m args below meth c D cl A w F σ0 cells slots Q nL σ (pc) lv2 (st)) : xX p l e R s m args below meth c D cl A w F σ0 cells slots Q nL σ (pc) lv (st) := by
  intro hF H locs ls hP hD hS hl
  exact k hF H locs ls hP hD hS (lv_sub hl ks h2)
theorem xr_iadd (C : xC z p s m args meth c cc nL own Ts D cl tys A) {a b : Int} (d : decode cc pc = .ok (.iadd, 1)) (k : xX p l e R s m args below meth c D cl A w F σ0 cells slots Q nL σ (pc + 1) lv (.int (i32 (a + b)) :: st)) : xX p l e R s m args below meth c D cl A w F σ0 cells slots Q nL σ (pc) lv (.int (i32 b) :: .int (i32 a) :: st) := by
  intro hF H locs ls hP hD hS hl
  refine lv_iadd C.1 C.2.1 d ?_
  rw [i32_add]
  exact k hF H locs ls hP hD hS hl
theorem xr_isub (C : xC z p s m args meth c cc nL own Ts D cl tys A) {a b : Int} (d : decode cc pc = .ok (.isub, 1)) (k : xX p l e R s m args below meth c D cl A w F σ0 cells slots Q nL σ (pc + 1) lv (.int (i32 (a - b)) :: st)) : xX p l e R s m args below meth c D cl A w F σ0 cells slots Q nL σ (pc) lv (.int (i32 b) :: .int (i32 a) :: st) := by
  intro hF H locs ls hP hD hS hl
  refine lv_isub C.1 C.2.1 d ?_
  rw [i32_sub]
  exact k hF H locs ls hP hD hS hl
theorem xr_imul (C : xC z p s m args meth c cc nL own Ts D cl tys A) {a b : Int} (d : decode cc pc = .ok (.imul, 1)) (k : xX p l e R s m args below meth c D cl A w F σ0 cells slots Q nL σ (pc + 1) lv (.int (i32 (a * b)) :: st)) : xX p l e R s m args below meth c D cl A w F σ0 cells slots Q nL σ (pc) lv (.int (i32 b) :: .int (i32 a) :: st) := by
  intro hF H locs ls hP hD hS hl
  refine lv_imul C.1 C.2.1 d ?_
  rw [i32_mul]
  exact k hF H locs ls hP hD hS hl
theorem xr_iand (C : xC z p s m args meth c cc nL own Ts D cl tys A) {a b : Int} (d : decode cc pc = .ok (.iand, 1)) (k : xX p l e R s m args below meth c D cl A w F σ0 cells slots Q nL σ (pc + 1) lv (.int (i32 (jand a b)) :: st)) : xX p l e R s m args below meth c D cl A w F σ0 cells slots Q nL σ (pc) lv (.int (i32 b) :: .int (i32 a) :: st) := by
  intro hF H locs ls hP hD hS hl
  refine lv_iand C.1 C.2.1 d ?_
  have h := k hF H locs ls hP hD hS hl
  unfold jand at h
  rw [i32_asI] at h
  exact h
theorem xr_ior (C : xC z p s m args meth c cc nL own Ts D cl tys A) {a b : Int} (d : decode cc pc = .ok (.ior, 1)) (k : xX p l e R s m args below meth c D cl A w F σ0 cells slots Q nL σ (pc + 1) lv (.int (i32 (jor a b)) :: st)) : xX p l e R s m args below meth c D cl A w F σ0 cells slots Q nL σ (pc) lv (.int (i32 b) :: .int (i32 a) :: st) := by
  intro hF H locs ls hP hD hS hl
  refine lv_ior C.1 C.2.1 d ?_
  have h := k hF H locs ls hP hD hS hl
  unfold jor at h
  rw [i32_asI] at h
  exact h
theorem xr_ixor (C : xC z p s m args meth c cc nL own Ts D cl tys A) {a b : Int} (d : decode cc pc = .ok (.ixor, 1)) (k : xX p l e R s m args below meth c D cl A w F σ0 cells slots Q nL σ (pc + 1) lv (.int (i32 (jxor a b)) :: st)) : xX p l e R s m args below meth c D cl A w F σ0 cells slots Q nL σ (pc) lv (.int (i32 b) :: .int (i32 a) :: st) := by
  intro hF H locs ls hP hD hS hl
  refine lv_ixor C.1 C.2.1 d ?_
  have h := k hF H locs ls hP hD hS hl
  unfold jxor at h
  rw [i32_asI] at h
  exact h
theorem xr_ishl (C : xC z p s m args meth c cc nL own Ts D cl tys A) {a b : Int} (d : decode cc pc = .ok (.ishl, 1)) (k : xX p l e R s m args below meth c D cl A w F σ0 cells slots Q nL σ (pc + 1) lv (.int (i32 (jshl a b)) :: st)) : xX p l e R s m args below meth c D cl A w F σ0 cells slots Q nL σ (pc) lv (.int (i32 b) :: .int (i32 a) :: st) := by
  intro hF H locs ls hP hD hS hl
  refine lv_ishl C.1 C.2.1 d ?_
  have h := k hF H locs ls hP hD hS hl
  unfold jshl at h
  rw [i32_asI] at h
  exact h
theorem xr_ishr (C : xC z p s m args meth c cc nL own Ts D cl tys A) {a b : Int} (d : decode cc pc = .ok (.ishr, 1)) (k : xX p l e R s m args below meth c D cl A w F σ0 cells slots Q nL σ (pc + 1) lv (.int (i32 (jshr a b)) :: st)) : xX p l e R s m args below meth c D cl A w F σ0 cells slots Q nL σ (pc) lv (.int (i32 b) :: .int (i32 a) :: st) := by
  intro hF H locs ls hP hD hS hl
  refine lv_ishr C.1 C.2.1 d ?_
  have h := k hF H locs ls hP hD hS hl
  unfold jshr at h
  rw [i32_asI] at h
  exact h
theorem xr_idiv (C : xC z p s m args meth c cc nL own Ts D cl tys A) {a b : Int} (hne : rng b ∧ ¬ b = 0) (d : decode cc pc = .ok (.idiv, 1)) (k : xX p l e R s m args below meth c D cl A w F σ0 cells slots Q nL σ (pc + 1) lv (.int (i32 (jdiv a b)) :: st)) : xX p l e R s m args below meth c D cl A w F σ0 cells slots Q nL σ (pc) lv (.int (i32 b) :: .int (i32 a) :: st) := by
  intro hF H locs ls hP hD hS hl
  refine lv_idiv C.1 C.2.1 d (fun q => hne.2 ((i32_eq hne.1 rng0).mp q)) ?_
  have h := k hF H locs ls hP hD hS hl
  unfold jdiv at h
  rw [i32_asI] at h
  exact h
theorem xr_irem (C : xC z p s m args meth c cc nL own Ts D cl tys A) {a b : Int} (hne : rng b ∧ ¬ b = 0) (d : decode cc pc = .ok (.irem, 1)) (k : xX p l e R s m args below meth c D cl A w F σ0 cells slots Q nL σ (pc + 1) lv (.int (i32 (jrem a b)) :: st)) : xX p l e R s m args below meth c D cl A w F σ0 cells slots Q nL σ (pc) lv (.int (i32 b) :: .int (i32 a) :: st) := by
  intro hF H locs ls hP hD hS hl
  refine lv_irem C.1 C.2.1 d (fun q => hne.2 ((i32_eq hne.1 rng0).mp q)) ?_
  have h := k hF H locs ls hP hD hS hl
  unfold jrem at h
  rw [i32_asI] at h
  exact h
theorem xr_ladd (C : xC z p s m args meth c cc nL own Ts D cl tys A) {a b : Int} (d : decode cc pc = .ok (.ladd, 1)) (k : xX p l e R s m args below meth c D cl A w F σ0 cells slots Q nL σ (pc + 1) lv (.long (i64 (a + b)) :: st)) : xX p l e R s m args below meth c D cl A w F σ0 cells slots Q nL σ (pc) lv (.long (i64 b) :: .long (i64 a) :: st) := by
  intro hF H locs ls hP hD hS hl
  refine lv_ladd C.1 C.2.1 d ?_
  rw [i64_add]
  exact k hF H locs ls hP hD hS hl
theorem xr_lmul (C : xC z p s m args meth c cc nL own Ts D cl tys A) {a b : Int} (d : decode cc pc = .ok (.lmul, 1)) (k : xX p l e R s m args below meth c D cl A w F σ0 cells slots Q nL σ (pc + 1) lv (.long (i64 (a * b)) :: st)) : xX p l e R s m args below meth c D cl A w F σ0 cells slots Q nL σ (pc) lv (.long (i64 b) :: .long (i64 a) :: st) := by
  intro hF H locs ls hP hD hS hl
  refine lv_lmul C.1 C.2.1 d ?_
  rw [i64_mul]
  exact k hF H locs ls hP hD hS hl
theorem xr_land (C : xC z p s m args meth c cc nL own Ts D cl tys A) {a b : Int} (d : decode cc pc = .ok (.land, 1)) (k : xX p l e R s m args below meth c D cl A w F σ0 cells slots Q nL σ (pc + 1) lv (.long (i64 (kand a b)) :: st)) : xX p l e R s m args below meth c D cl A w F σ0 cells slots Q nL σ (pc) lv (.long (i64 b) :: .long (i64 a) :: st) := by
  intro hF H locs ls hP hD hS hl
  refine lv_land C.1 C.2.1 d ?_
  have h := k hF H locs ls hP hD hS hl
  unfold kand at h
  rw [i64_asI] at h
  exact h
theorem xr_lor (C : xC z p s m args meth c cc nL own Ts D cl tys A) {a b : Int} (d : decode cc pc = .ok (.lor, 1)) (k : xX p l e R s m args below meth c D cl A w F σ0 cells slots Q nL σ (pc + 1) lv (.long (i64 (kor a b)) :: st)) : xX p l e R s m args below meth c D cl A w F σ0 cells slots Q nL σ (pc) lv (.long (i64 b) :: .long (i64 a) :: st) := by
  intro hF H locs ls hP hD hS hl
  refine lv_lor C.1 C.2.1 d ?_
  have h := k hF H locs ls hP hD hS hl
  unfold kor at h
  rw [i64_asI] at h
  exact h
theorem xr_lshl (C : xC z p s m args meth c cc nL own Ts D cl tys A) {a b : Int} (d : decode cc pc = .ok (.lshl, 1)) (k : xX p l e R s m args below meth c D cl A w F σ0 cells slots Q nL σ (pc + 1) lv (.long (i64 (kshl a b)) :: st)) : xX p l e R s m args below meth c D cl A w F σ0 cells slots Q nL σ (pc) lv (.int (i32 b) :: .long (i64 a) :: st) := by
  intro hF H locs ls hP hD hS hl
  refine lv_lshl C.1 C.2.1 d rfl ?_
  have h := k hF H locs ls hP hD hS hl
  unfold kshl at h
  rw [i64_asI] at h
  exact h
theorem xr_lshr (C : xC z p s m args meth c cc nL own Ts D cl tys A) {a b : Int} (d : decode cc pc = .ok (.lshr, 1)) (k : xX p l e R s m args below meth c D cl A w F σ0 cells slots Q nL σ (pc + 1) lv (.long (i64 (kshr a b)) :: st)) : xX p l e R s m args below meth c D cl A w F σ0 cells slots Q nL σ (pc) lv (.int (i32 b) :: .long (i64 a) :: st) := by
  intro hF H locs ls hP hD hS hl
  refine lv_lshr C.1 C.2.1 d rfl ?_
  have h := k hF H locs ls hP hD hS hl
  unfold kshr at h
  rw [i64_asI] at h
  exact h
theorem xr_lushr (C : xC z p s m args meth c cc nL own Ts D cl tys A) {a b : Int} (d : decode cc pc = .ok (.lushr, 1)) (k : xX p l e R s m args below meth c D cl A w F σ0 cells slots Q nL σ (pc + 1) lv (.long (i64 (kushr a b)) :: st)) : xX p l e R s m args below meth c D cl A w F σ0 cells slots Q nL σ (pc) lv (.int (i32 b) :: .long (i64 a) :: st) := by
  intro hF H locs ls hP hD hS hl
  refine lv_lushr C.1 C.2.1 d rfl ?_
  have h := k hF H locs ls hP hD hS hl
  unfold kushr at h
  rw [i64_asI] at h
  exact h
theorem xr_lsub (C : xC z p s m args meth c cc nL own Ts D cl tys A) {a b : Int} (d : decode cc pc = .ok (.lsub, 1)) (k : xX p l e R s m args below meth c D cl A w F σ0 cells slots Q nL σ (pc + 1) lv (.long (i64 (a - b)) :: st)) : xX p l e R s m args below meth c D cl A w F σ0 cells slots Q nL σ (pc) lv (.long (i64 b) :: .long (i64 a) :: st) := by
  intro hF H locs ls hP hD hS hl
  refine lv_lsub C.1 C.2.1 d ?_
  rw [i64_sub]
  exact k hF H locs ls hP hD hS hl
theorem xr_l2i (C : xC z p s m args meth c cc nL own Ts D cl tys A) {a : Int} (d : decode cc pc = .ok (.l2i, 1)) (k : xX p l e R s m args below meth c D cl A w F σ0 cells slots Q nL σ (pc + 1) lv (.int (i32 a) :: st)) : xX p l e R s m args below meth c D cl A w F σ0 cells slots Q nL σ (pc) lv (.long (i64 a) :: st) := by
  intro hF H locs ls hP hD hS hl
  exact lv_l2i C.1 C.2.1 d (Int64.toInt32_ofInt) (k hF H locs ls hP hD hS hl)
theorem xr_i2l (C : xC z p s m args meth c cc nL own Ts D cl tys A) {a : Int} (ra : rng a) (d : decode cc pc = .ok (.i2l, 1)) (k : xX p l e R s m args below meth c D cl A w F σ0 cells slots Q nL σ (pc + 1) lv (.long (i64 a) :: st)) : xX p l e R s m args below meth c D cl A w F σ0 cells slots Q nL σ (pc) lv (.int (i32 a) :: st) := by
  intro hF H locs ls hP hD hS hl
  exact lv_i2l C.1 C.2.1 d (Int64.toInt_inj.mp (by rw [Int32.toInt_toInt64, i32_toInt ra, i64_toInt ⟨by have := ra.1; omega, by have := ra.2; omega⟩])) (k hF H locs ls hP hD hS hl)
theorem xr_lcmp (C : xC z p s m args meth c cc nL own Ts D cl tys A) {a b : Int} (d : decode cc pc = .ok (.lcmp, 1)) (k : xX p l e R s m args below meth c D cl A w F σ0 cells slots Q nL σ (pc + 1) lv (.int (i32 (jlcmp a b)) :: st)) : xX p l e R s m args below meth c D cl A w F σ0 cells slots Q nL σ (pc) lv (.long (i64 b) :: .long (i64 a) :: st) := by
  intro hF H locs ls hP hD hS hl
  refine W.lcmp C.1 C.2.1 d ?_
  have h := k hF H locs ls hP hD hS hl
  unfold jlcmp at h
  rw [i32_asI] at h
  exact h
theorem xr_dup (C : xC z p s m args meth c cc nL own Ts D cl tys A) {v : Value} (d : decode cc pc = .ok (.dup, 1)) (hv : v.category = 1) (k : xX p l e R s m args below meth c D cl A w F σ0 cells slots Q nL σ (pc + 1) lv (v :: v :: st)) : xX p l e R s m args below meth c D cl A w F σ0 cells slots Q nL σ (pc) lv (v :: st) := by
  intro hF H locs ls hP hD hS hl
  exact lv_dup C.1 C.2.1 d hv (k hF H locs ls hP hD hS hl)
theorem xr_dup2 (C : xC z p s m args meth c cc nL own Ts D cl tys A) {v u : Value} (d : decode cc pc = .ok (.dup2, 1)) (hv : v.category = 1) (hu : u.category = 1) (k : xX p l e R s m args below meth c D cl A w F σ0 cells slots Q nL σ (pc + 1) lv (v :: u :: v :: u :: st)) : xX p l e R s m args below meth c D cl A w F σ0 cells slots Q nL σ (pc) lv (v :: u :: st) := by
  intro hF H locs ls hP hD hS hl
  exact lv_dup2_11 C.1 C.2.1 d hv hu (k hF H locs ls hP hD hS hl)
theorem xr_pop (C : xC z p s m args meth c cc nL own Ts D cl tys A) {v : Value} (d : decode cc pc = .ok (.pop, 1)) (hv : v.category = 1) (k : xX p l e R s m args below meth c D cl A w F σ0 cells slots Q nL σ (pc + 1) lv (st)) : xX p l e R s m args below meth c D cl A w F σ0 cells slots Q nL σ (pc) lv (v :: st) := by
  intro hF H locs ls hP hD hS hl
  exact lv_pop C.1 C.2.1 d hv (k hF H locs ls hP hD hS hl)
theorem xr_icmp_eq (C : xC z p s m args meth c cc nL own Ts D cl tys A) {a b : Int} (ra : rng a) (rb : rng b) {off : Int} (tgt : Nat) (d : decode cc pc = .ok (.if_icmp .eq off, 3)) (ht : (pc : Int) + off = (tgt : Int)) (kt : a = b → xX p l e R s m args below meth c D cl A w F σ0 cells slots Q nL σ (tgt) lv (st)) (kf : ¬ a = b → xX p l e R s m args below meth c D cl A w F σ0 cells slots Q nL σ (pc + 3) lv (st)) : xX p l e R s m args below meth c D cl A w F σ0 cells slots Q nL σ (pc) lv (.int (i32 b) :: .int (i32 a) :: st) := by
  intro hF H locs ls hP hD hS hl
  exact lv_icmp_eq C.1 C.2.1 d ht (fun q => kt ((i32_eq ra rb).mp q) hF H locs ls hP hD hS hl) (fun q => kf (fun q2 => q ((i32_eq ra rb).mpr q2)) hF H locs ls hP hD hS hl)
theorem xr_if_eq (C : xC z p s m args meth c cc nL own Ts D cl tys A) {a : Int} (ra : rng a) {off : Int} (tgt : Nat) (d : decode cc pc = .ok (.ifCond .eq off, 3)) (ht : (pc : Int) + off = (tgt : Int)) (kt : a = 0 → xX p l e R s m args below meth c D cl A w F σ0 cells slots Q nL σ (tgt) lv (st)) (kf : ¬ a = 0 → xX p l e R s m args below meth c D cl A w F σ0 cells slots Q nL σ (pc + 3) lv (st)) : xX p l e R s m args below meth c D cl A w F σ0 cells slots Q nL σ (pc) lv (.int (i32 a) :: st) := by
  intro hF H locs ls hP hD hS hl
  exact lv_if_eq C.1 C.2.1 d ht (fun q => kt ((i32_eq ra rng0).mp q) hF H locs ls hP hD hS hl) (fun q => kf (fun q2 => q ((i32_eq ra rng0).mpr q2)) hF H locs ls hP hD hS hl)
theorem xr_icmp_ne (C : xC z p s m args meth c cc nL own Ts D cl tys A) {a b : Int} (ra : rng a) (rb : rng b) {off : Int} (tgt : Nat) (d : decode cc pc = .ok (.if_icmp .ne off, 3)) (ht : (pc : Int) + off = (tgt : Int)) (kt : ¬ a = b → xX p l e R s m args below meth c D cl A w F σ0 cells slots Q nL σ (tgt) lv (st)) (kf : a = b → xX p l e R s m args below meth c D cl A w F σ0 cells slots Q nL σ (pc + 3) lv (st)) : xX p l e R s m args below meth c D cl A w F σ0 cells slots Q nL σ (pc) lv (.int (i32 b) :: .int (i32 a) :: st) := by
  intro hF H locs ls hP hD hS hl
  exact lv_icmp_ne C.1 C.2.1 d ht (fun q => kt (fun q2 => q ((i32_eq ra rb).mpr q2)) hF H locs ls hP hD hS hl) (fun q => kf ((i32_eq ra rb).mp q) hF H locs ls hP hD hS hl)
theorem xr_if_ne (C : xC z p s m args meth c cc nL own Ts D cl tys A) {a : Int} (ra : rng a) {off : Int} (tgt : Nat) (d : decode cc pc = .ok (.ifCond .ne off, 3)) (ht : (pc : Int) + off = (tgt : Int)) (kt : ¬ a = 0 → xX p l e R s m args below meth c D cl A w F σ0 cells slots Q nL σ (tgt) lv (st)) (kf : a = 0 → xX p l e R s m args below meth c D cl A w F σ0 cells slots Q nL σ (pc + 3) lv (st)) : xX p l e R s m args below meth c D cl A w F σ0 cells slots Q nL σ (pc) lv (.int (i32 a) :: st) := by
  intro hF H locs ls hP hD hS hl
  exact lv_if_ne C.1 C.2.1 d ht (fun q => kt (fun q2 => q ((i32_eq ra rng0).mpr q2)) hF H locs ls hP hD hS hl) (fun q => kf ((i32_eq ra rng0).mp q) hF H locs ls hP hD hS hl)
theorem xr_icmp_lt (C : xC z p s m args meth c cc nL own Ts D cl tys A) {a b : Int} (ra : rng a) (rb : rng b) {off : Int} (tgt : Nat) (d : decode cc pc = .ok (.if_icmp .lt off, 3)) (ht : (pc : Int) + off = (tgt : Int)) (kt : a < b → xX p l e R s m args below meth c D cl A w F σ0 cells slots Q nL σ (tgt) lv (st)) (kf : ¬ a < b → xX p l e R s m args below meth c D cl A w F σ0 cells slots Q nL σ (pc + 3) lv (st)) : xX p l e R s m args below meth c D cl A w F σ0 cells slots Q nL σ (pc) lv (.int (i32 b) :: .int (i32 a) :: st) := by
  intro hF H locs ls hP hD hS hl
  exact lv_icmp_lt C.1 C.2.1 d ht (fun q => kt ((i32_lt ra rb).mp q) hF H locs ls hP hD hS hl) (fun q => kf (fun q2 => q ((i32_lt ra rb).mpr q2)) hF H locs ls hP hD hS hl)
theorem xr_if_lt (C : xC z p s m args meth c cc nL own Ts D cl tys A) {a : Int} (ra : rng a) {off : Int} (tgt : Nat) (d : decode cc pc = .ok (.ifCond .lt off, 3)) (ht : (pc : Int) + off = (tgt : Int)) (kt : a < 0 → xX p l e R s m args below meth c D cl A w F σ0 cells slots Q nL σ (tgt) lv (st)) (kf : ¬ a < 0 → xX p l e R s m args below meth c D cl A w F σ0 cells slots Q nL σ (pc + 3) lv (st)) : xX p l e R s m args below meth c D cl A w F σ0 cells slots Q nL σ (pc) lv (.int (i32 a) :: st) := by
  intro hF H locs ls hP hD hS hl
  exact lv_if_lt C.1 C.2.1 d ht (fun q => kt ((i32_lt ra rng0).mp q) hF H locs ls hP hD hS hl) (fun q => kf (fun q2 => q ((i32_lt ra rng0).mpr q2)) hF H locs ls hP hD hS hl)
theorem xr_icmp_ge (C : xC z p s m args meth c cc nL own Ts D cl tys A) {a b : Int} (ra : rng a) (rb : rng b) {off : Int} (tgt : Nat) (d : decode cc pc = .ok (.if_icmp .ge off, 3)) (ht : (pc : Int) + off = (tgt : Int)) (kt : b ≤ a → xX p l e R s m args below meth c D cl A w F σ0 cells slots Q nL σ (tgt) lv (st)) (kf : ¬ b ≤ a → xX p l e R s m args below meth c D cl A w F σ0 cells slots Q nL σ (pc + 3) lv (st)) : xX p l e R s m args below meth c D cl A w F σ0 cells slots Q nL σ (pc) lv (.int (i32 b) :: .int (i32 a) :: st) := by
  intro hF H locs ls hP hD hS hl
  exact lv_icmp_ge C.1 C.2.1 d ht (fun q => kt ((i32_le rb ra).mp q) hF H locs ls hP hD hS hl) (fun q => kf (fun q2 => q ((i32_le rb ra).mpr q2)) hF H locs ls hP hD hS hl)
theorem xr_if_ge (C : xC z p s m args meth c cc nL own Ts D cl tys A) {a : Int} (ra : rng a) {off : Int} (tgt : Nat) (d : decode cc pc = .ok (.ifCond .ge off, 3)) (ht : (pc : Int) + off = (tgt : Int)) (kt : 0 ≤ a → xX p l e R s m args below meth c D cl A w F σ0 cells slots Q nL σ (tgt) lv (st)) (kf : ¬ 0 ≤ a → xX p l e R s m args below meth c D cl A w F σ0 cells slots Q nL σ (pc + 3) lv (st)) : xX p l e R s m args below meth c D cl A w F σ0 cells slots Q nL σ (pc) lv (.int (i32 a) :: st) := by
  intro hF H locs ls hP hD hS hl
  exact lv_if_ge C.1 C.2.1 d ht (fun q => kt ((i32_le rng0 ra).mp q) hF H locs ls hP hD hS hl) (fun q => kf (fun q2 => q ((i32_le rng0 ra).mpr q2)) hF H locs ls hP hD hS hl)
theorem xr_icmp_gt (C : xC z p s m args meth c cc nL own Ts D cl tys A) {a b : Int} (ra : rng a) (rb : rng b) {off : Int} (tgt : Nat) (d : decode cc pc = .ok (.if_icmp .gt off, 3)) (ht : (pc : Int) + off = (tgt : Int)) (kt : b < a → xX p l e R s m args below meth c D cl A w F σ0 cells slots Q nL σ (tgt) lv (st)) (kf : ¬ b < a → xX p l e R s m args below meth c D cl A w F σ0 cells slots Q nL σ (pc + 3) lv (st)) : xX p l e R s m args below meth c D cl A w F σ0 cells slots Q nL σ (pc) lv (.int (i32 b) :: .int (i32 a) :: st) := by
  intro hF H locs ls hP hD hS hl
  exact lv_icmp_gt C.1 C.2.1 d ht (fun q => kt ((i32_lt rb ra).mp q) hF H locs ls hP hD hS hl) (fun q => kf (fun q2 => q ((i32_lt rb ra).mpr q2)) hF H locs ls hP hD hS hl)
theorem xr_if_gt (C : xC z p s m args meth c cc nL own Ts D cl tys A) {a : Int} (ra : rng a) {off : Int} (tgt : Nat) (d : decode cc pc = .ok (.ifCond .gt off, 3)) (ht : (pc : Int) + off = (tgt : Int)) (kt : 0 < a → xX p l e R s m args below meth c D cl A w F σ0 cells slots Q nL σ (tgt) lv (st)) (kf : ¬ 0 < a → xX p l e R s m args below meth c D cl A w F σ0 cells slots Q nL σ (pc + 3) lv (st)) : xX p l e R s m args below meth c D cl A w F σ0 cells slots Q nL σ (pc) lv (.int (i32 a) :: st) := by
  intro hF H locs ls hP hD hS hl
  exact lv_if_gt C.1 C.2.1 d ht (fun q => kt ((i32_lt rng0 ra).mp q) hF H locs ls hP hD hS hl) (fun q => kf (fun q2 => q ((i32_lt rng0 ra).mpr q2)) hF H locs ls hP hD hS hl)
theorem xr_icmp_le (C : xC z p s m args meth c cc nL own Ts D cl tys A) {a b : Int} (ra : rng a) (rb : rng b) {off : Int} (tgt : Nat) (d : decode cc pc = .ok (.if_icmp .le off, 3)) (ht : (pc : Int) + off = (tgt : Int)) (kt : a ≤ b → xX p l e R s m args below meth c D cl A w F σ0 cells slots Q nL σ (tgt) lv (st)) (kf : ¬ a ≤ b → xX p l e R s m args below meth c D cl A w F σ0 cells slots Q nL σ (pc + 3) lv (st)) : xX p l e R s m args below meth c D cl A w F σ0 cells slots Q nL σ (pc) lv (.int (i32 b) :: .int (i32 a) :: st) := by
  intro hF H locs ls hP hD hS hl
  exact lv_icmp_le C.1 C.2.1 d ht (fun q => kt ((i32_le ra rb).mp q) hF H locs ls hP hD hS hl) (fun q => kf (fun q2 => q ((i32_le ra rb).mpr q2)) hF H locs ls hP hD hS hl)
theorem xr_if_le (C : xC z p s m args meth c cc nL own Ts D cl tys A) {a : Int} (ra : rng a) {off : Int} (tgt : Nat) (d : decode cc pc = .ok (.ifCond .le off, 3)) (ht : (pc : Int) + off = (tgt : Int)) (kt : a ≤ 0 → xX p l e R s m args below meth c D cl A w F σ0 cells slots Q nL σ (tgt) lv (st)) (kf : ¬ a ≤ 0 → xX p l e R s m args below meth c D cl A w F σ0 cells slots Q nL σ (pc + 3) lv (st)) : xX p l e R s m args below meth c D cl A w F σ0 cells slots Q nL σ (pc) lv (.int (i32 a) :: st) := by
  intro hF H locs ls hP hD hS hl
  exact lv_if_le C.1 C.2.1 d ht (fun q => kt ((i32_le ra rng0).mp q) hF H locs ls hP hD hS hl) (fun q => kf (fun q2 => q ((i32_le ra rng0).mpr q2)) hF H locs ls hP hD hS hl)
theorem xr_goto (C : xC z p s m args meth c cc nL own Ts D cl tys A) {off : Int} (tgt : Nat) (d : decode cc pc = .ok (.goto off, 3)) (ht : (pc : Int) + off = (tgt : Int)) (k : xX p l e R s m args below meth c D cl A w F σ0 cells slots Q nL σ (tgt) lv (st)) : xX p l e R s m args below meth c D cl A w F σ0 cells slots Q nL σ (pc) lv (st) := by
  intro hF H locs ls hP hD hS hl
  exact lv_goto C.1 C.2.1 d ht (k hF H locs ls hP hD hS hl)
theorem xr_tabOut (C : xC z p s m args meth c cc nL own Ts D cl tys A) {a : Int} (ra : rng a) {dflt lo hi : Int} {offs : Array Int} {len : Nat} (tgt : Nat) (d : decode cc pc = .ok (.tableswitch dflt lo hi offs, len)) (h : a < lo ∨ hi < a) (ht : (pc : Int) + dflt = (tgt : Int)) (k : xX p l e R s m args below meth c D cl A w F σ0 cells slots Q nL σ (tgt) lv (st)) : xX p l e R s m args below meth c D cl A w F σ0 cells slots Q nL σ (pc) lv (.int (i32 a) :: st) := by
  intro hF H locs ls hP hD hS hl
  exact lv_tableOut C.1 C.2.1 d (by rw [i32_toInt ra]; exact h) ht (k hF H locs ls hP hD hS hl)
theorem xr_tabIn (C : xC z p s m args meth c cc nL own Ts D cl tys A) {a : Int} (n : Int) (ha : a = n) (rn : rng n) {dflt lo hi off : Int} {offs : Array Int} {len : Nat} (tgt : Nat) (d : decode cc pc = .ok (.tableswitch dflt lo hi offs, len)) (h1 : ¬ n < lo) (h2 : ¬ hi < n) (ho : offs[(n - lo).toNat]? = some off) (ht : (pc : Int) + off = (tgt : Int)) (k : xX p l e R s m args below meth c D cl A w F σ0 cells slots Q nL σ (tgt) lv (st)) : xX p l e R s m args below meth c D cl A w F σ0 cells slots Q nL σ (pc) lv (.int (i32 a) :: st) := by
  intro hF H locs ls hP hD hS hl
  subst ha
  exact lv_tableIn C.1 C.2.1 d (by rw [i32_toInt rn]; exact h1) (by rw [i32_toInt rn]; exact h2) (by rw [i32_toInt rn]; exact ho) ht (k hF H locs ls hP hD hS hl)
theorem xr_get (C : xC z p s m args meth c cc nL own Ts D cl tys A) {ref Cn : String} {T : u_T} {N ci ix : Nat} {a : Nat} {fs : List Value} {v : Value} (hin : ∀ w ∈ u_ws Cn T N, w ∈ Ts) (q0 : Nat) (he : (w σ)[q0]? = some (a, .inr (ci, fs))) (hc : cl[ci]? = some (Cn, T, N)) (k0 : Nat) (hk : k0 < N) (hlink : Cond.fieldLink own ix ref (T k0).2.1 (T k0).2.2.1 ∈ Ts) (hr : (T k0).1 = ref) (hv : fs[k0]? = some v) (d : decode cc pc = .ok (.getfield ix, 3)) (k : xX p l e R s m args below meth c D cl A w F σ0 cells slots Q nL σ (pc + 3) lv (v :: st)) : xX p l e R s m args below meth c D cl A w F σ0 cells slots Q nL σ (pc) lv (.ref a :: st) := by
  intro hF H locs ls hP hD hS hl
  exact va_get C.1 C.2.1 C.2.2.2.2.1 hin C.2.2.2.1 C.2.2.2.2.2.1 hP q0 he hc k0 hk (C.2.2.2.2.1 _ hlink) (fun _ h9 => hr ▸ h9) hv d (k hF H locs ls hP hD hS hl)
theorem xr_put (C : xC z p s m args meth c cc nL own Ts D cl tys A) {ref Cn : String} {T : u_T} {N ci ix : Nat} {a : Nat} {fs : List Value} {v : Value} {ty : FieldType} {r : Nat} {x : Int} (hin : ∀ w ∈ u_ws Cn T N, w ∈ Ts) (ty0 : Nat → FieldType) (hty : ∀ k, k < N → parseFieldDescriptor (T k).2.2.1 = some (ty0 k)) (hnm : ∀ a, a < N → ∀ b, b < N → a ≠ b → (T a).2.1 ≠ (T b).2.1) (q0 : Nat) (he : (w σ)[q0]? = some (a, .inr (ci, fs))) (hc : cl[ci]? = some (Cn, T, N)) (k0 : Nat) (hk : k0 < N) (hlink : Cond.fieldLink own ix ref (T k0).2.1 (T k0).2.2.1 ∈ Ts) (hr : (T k0).1 = ref) (hfin : (T k0).2.2.2 = false) (hd : parseFieldDescriptor (T k0).2.2.1 = some ty) (hn : narrow ty v = v) (hfit : fits ty v = true) (hlen : k0 < fs.length) (hset : (w σ).set q0 (a, .inr (ci, fs.set k0 v)) = w (xup σ r k0 x)) (hrF : r ∈ F) (d : decode cc pc = .ok (.putfield ix, 3)) (k : xX p l e R s m args below meth c D cl A w F σ0 cells slots Q nL (xup σ r k0 x) (pc + 3) lv (st)) : xX p l e R s m args below meth c D cl A w F σ0 cells slots Q nL σ (pc) lv (v :: .ref a :: st) := by
  intro hF H locs ls hP hD hS hl
  refine va_put C.1 C.2.1 C.2.2.2.2.1 hin ty0 hty hnm C.2.2.2.1 C.2.2.2.2.2.1 hP hD hS q0 he hc k0 hk (C.2.2.2.2.1 _ hlink) (fun _ h9 => hr ▸ h9) hfin hd hn hfit hlen d (fun H1 locs1 hP1 hD1 hS1 => ?_)
  rw [hset] at hP1 hD1
  exact k (fun k' hk' => (xup_ne (fun e => hk' (by rw [e]; exact hrF))).trans (hF k' hk')) H1 locs1 ls hP1 hD1 hS1 hl
theorem xr_iald (C : xC z p s m args meth c cc nL own Ts D cl tys A) {a t0 : Nat} {cA : ClassId} {n : Nat} {f : Nat → Int} {i : Int} (q0 : Nat) (ha : (w σ)[q0]? = some (a, .inl (cA, n, .inl (fun j => i32 (f j))))) (ht : tys[t0]? = some (cA, .int)) (hn : n ≤ 1000000) {N : Int} (hN : (n : Int) = N) (hi : 0 ≤ i ∧ i < N) (d : decode cc pc = .ok (.iaload, 1)) (k : xX p l e R s m args below meth c D cl A w F σ0 cells slots Q nL σ (pc + 1) lv (.int (i32 (f i.toNat)) :: st)) : xX p l e R s m args below meth c D cl A w F σ0 cells slots Q nL σ (pc) lv (.int (i32 i) :: .ref a :: st) := by
  intro hF H locs ls hP hD hS hl
  subst hN
  refine va_iald C.1 C.2.1 C.2.2.2.2.2.1 hP q0 t0 ha ht (i32_vin hi.1 hi.2 hn) d ?_
  rw [i32_clamp hi.1 (by have := hi.2; omega)]
  exact k hF H locs ls hP hD hS hl
theorem xr_zald (C : xC z p s m args meth c cc nL own Ts D cl tys A) {a t0 : Nat} {cA : ClassId} {n : Nat} {f : Nat → Int} {i : Int} (q0 : Nat) (ha : (w σ)[q0]? = some (a, .inl (cA, n, .inl (fun j => i32 (f j))))) (ht : tys[t0]? = some (cA, .boolean)) (hn : n ≤ 1000000) {N : Int} (hN : (n : Int) = N) (hi : 0 ≤ i ∧ i < N) (d : decode cc pc = .ok (.baload, 1)) (k : xX p l e R s m args below meth c D cl A w F σ0 cells slots Q nL σ (pc + 1) lv (.int (i32 (f i.toNat)) :: st)) : xX p l e R s m args below meth c D cl A w F σ0 cells slots Q nL σ (pc) lv (.int (i32 i) :: .ref a :: st) := by
  intro hF H locs ls hP hD hS hl
  subst hN
  refine va_zald C.1 C.2.1 C.2.2.2.2.2.1 hP q0 t0 ha ht (i32_vin hi.1 hi.2 hn) d ?_
  rw [i32_clamp hi.1 (by have := hi.2; omega)]
  exact k hF H locs ls hP hD hS hl
theorem xr_lald (C : xC z p s m args meth c cc nL own Ts D cl tys A) {a t0 : Nat} {cA : ClassId} {n : Nat} {f : Nat → Int} {i : Int} (q0 : Nat) (ha : (w σ)[q0]? = some (a, .inl (cA, n, .inr (.inl (fun j => i64 (f j)))))) (ht : tys[t0]? = some (cA, .long)) (hn : n ≤ 1000000) {N : Int} (hN : (n : Int) = N) (hi : 0 ≤ i ∧ i < N) (d : decode cc pc = .ok (.laload, 1)) (k : xX p l e R s m args below meth c D cl A w F σ0 cells slots Q nL σ (pc + 1) lv (.long (i64 (f i.toNat)) :: st)) : xX p l e R s m args below meth c D cl A w F σ0 cells slots Q nL σ (pc) lv (.int (i32 i) :: .ref a :: st) := by
  intro hF H locs ls hP hD hS hl
  subst hN
  refine va_lald C.1 C.2.1 C.2.2.2.2.2.1 hP q0 t0 ha ht (i32_vin hi.1 hi.2 hn) d ?_
  rw [i32_clamp hi.1 (by have := hi.2; omega)]
  exact k hF H locs ls hP hD hS hl
theorem xr_iast (C : xC z p s m args meth c cc nL own Ts D cl tys A) {a t0 : Nat} {cA : ClassId} {n : Nat} {f : Nat → Int} {i v : Int} {r : Nat} (q0 : Nat) (ha : (w σ)[q0]? = some (a, .inl (cA, n, .inl (fun j => i32 (f j))))) (ht : tys[t0]? = some (cA, .int)) (hn : n ≤ 1000000) {N : Int} (hN : (n : Int) = N) (hi : 0 ≤ i ∧ i < N) (hset : ∀ k, (w σ).set q0 (a, .inl (cA, n, .inl (upd (fun j => i32 (f j)) k (i32 v)))) = w (xup σ r k v)) (hrF : r ∈ F) (d : decode cc pc = .ok (.iastore, 1)) (k : xX p l e R s m args below meth c D cl A w F σ0 cells slots Q nL (xup σ r i.toNat v) (pc + 1) lv (st)) : xX p l e R s m args below meth c D cl A w F σ0 cells slots Q nL σ (pc) lv (.int (i32 v) :: .int (i32 i) :: .ref a :: st) := by
  intro hF H locs ls hP hD hS hl
  subst hN
  refine va_iast C.1 C.2.1 C.2.2.2.2.2.1 hP hD hS q0 t0 ha ht (i32_vin hi.1 hi.2 hn) d (fun H1 locs1 hP1 hD1 hS1 => ?_)
  rw [i32_clamp hi.1 (by have := hi.2; omega), hset] at hP1 hD1
  exact k (fun k' hk' => (xup_ne (fun e => hk' (by rw [e]; exact hrF))).trans (hF k' hk')) H1 locs1 ls hP1 hD1 hS1 hl
theorem xr_last (C : xC z p s m args meth c cc nL own Ts D cl tys A) {a t0 : Nat} {cA : ClassId} {n : Nat} {f : Nat → Int} {i v : Int} {r : Nat} (q0 : Nat) (ha : (w σ)[q0]? = some (a, .inl (cA, n, .inr (.inl (fun j => i64 (f j)))))) (ht : tys[t0]? = some (cA, .long)) (hn : n ≤ 1000000) {N : Int} (hN : (n : Int) = N) (hi : 0 ≤ i ∧ i < N) (hset : ∀ k, (w σ).set q0 (a, .inl (cA, n, .inr (.inl (vp_updL (fun j => i64 (f j)) k (i64 v))))) = w (xup σ r k v)) (hrF : r ∈ F) (d : decode cc pc = .ok (.lastore, 1)) (k : xX p l e R s m args below meth c D cl A w F σ0 cells slots Q nL (xup σ r i.toNat v) (pc + 1) lv (st)) : xX p l e R s m args below meth c D cl A w F σ0 cells slots Q nL σ (pc) lv (.long (i64 v) :: .int (i32 i) :: .ref a :: st) := by
  intro hF H locs ls hP hD hS hl
  subst hN
  refine va_last C.1 C.2.1 C.2.2.2.2.2.1 hP hD hS q0 t0 ha ht (i32_vin hi.1 hi.2 hn) d (fun H1 locs1 hP1 hD1 hS1 => ?_)
  rw [i32_clamp hi.1 (by have := hi.2; omega), hset] at hP1 hD1
  exact k (fun k' hk' => (xup_ne (fun e => hk' (by rw [e]; exact hrF))).trans (hF k' hk')) H1 locs1 ls hP1 hD1 hS1 hl
theorem xr_zast (C : xC z p s m args meth c cc nL own Ts D cl tys A) {a t0 : Nat} {cA : ClassId} {n : Nat} {f : Nat → Int} {i v : Int} {r : Nat} (q0 : Nat) (ha : (w σ)[q0]? = some (a, .inl (cA, n, .inl (fun j => i32 (f j))))) (ht : tys[t0]? = some (cA, .boolean)) (hn : n ≤ 1000000) {N : Int} (hN : (n : Int) = N) (hi : 0 ≤ i ∧ i < N) (hv : v = 0 ∨ v = 1) (hset : ∀ k, (w σ).set q0 (a, .inl (cA, n, .inl (upd (fun j => i32 (f j)) k (i32 v)))) = w (xup σ r k v)) (hrF : r ∈ F) (d : decode cc pc = .ok (.bastore, 1)) (k : xX p l e R s m args below meth c D cl A w F σ0 cells slots Q nL (xup σ r i.toNat v) (pc + 1) lv (st)) : xX p l e R s m args below meth c D cl A w F σ0 cells slots Q nL σ (pc) lv (.int (i32 v) :: .int (i32 i) :: .ref a :: st) := by
  intro hF H locs ls hP hD hS hl
  subst hN
  refine va_zast C.1 C.2.1 C.2.2.2.2.2.1 hP hD hS q0 t0 ha ht (i32_vin hi.1 hi.2 hn) d (fun H1 locs1 hP1 hD1 hS1 => ?_)
  have hz : vp_nar .boolean (i32 v) = i32 v := by rcases hv with rfl | rfl <;> decide
  rw [hz] at hP1 hD1
  rw [i32_clamp hi.1 (by have := hi.2; omega), hset] at hP1 hD1
  exact k (fun k' hk' => (xup_ne (fun e => hk' (by rw [e]; exact hrF))).trans (hF k' hk')) H1 locs1 ls hP1 hD1 hS1 hl
theorem xr_alen (C : xC z p s m args meth c cc nL own Ts D cl tys A) {a t0 : Nat} {cA : ClassId} {x : vp_A} {ty : FieldType} (q0 : Nat) (ha : (w σ)[q0]? = some (a, .inl (cA, x))) (ht : tys[t0]? = some (cA, ty)) (v : Int) (hv : Int32.ofNat x.1 = i32 v) (d : decode cc pc = .ok (.arraylength, 1)) (k : xX p l e R s m args below meth c D cl A w F σ0 cells slots Q nL σ (pc + 1) lv (.int (i32 v) :: st)) : xX p l e R s m args below meth c D cl A w F σ0 cells slots Q nL σ (pc) lv (.ref a :: st) := by
  intro hF H locs ls hP hD hS hl
  exact va_alen C.1 C.2.1 C.2.2.2.2.2.1 hP q0 t0 ha ht hv d (k hF H locs ls hP hD hS hl)
theorem xr_min (C : xC z p s m args meth c cc nL own Ts D cl tys A) {a b : Int} (ra : rng a) (rb : rng b) {ix : Nat} (h1 : Cond.methodLink own ix Lib.Math.min.name ∈ Ts) (h2 : Cond.static Lib.Math.min.name ∈ Ts) (h3 : Cond.initialized "java/lang/Math" ∈ Ts) (h4 : Cond.code Lib.Math.min.name Lib.Math.min.code 2 (some .int) ∈ Ts) (hfr : 1 ≤ R.frames) (hlo : (st.map fun v => v.category).sum + 13 ≤ R.locals) (hce : cells ≤ R.cells) (hsl : slots ≤ R.slots) (d : decode cc pc = .ok (.invokestatic ix, 3)) (k : xX p l e R s m args below meth c D cl A w F σ0 cells slots Q nL σ (pc + 3) lv (.int (i32 (jmin a b)) :: st)) : xX p l e R s m args below meth c D cl A w F σ0 cells slots Q nL σ (pc) lv (.int (i32 b) :: .int (i32 a) :: st) := by
  intro hF H locs ls hP hD hS hl
  refine va_mmin C.1 C.2.1 (by rw [C.2.2.1]; exact hl.1.symm) C.2.2.2.1 (C.2.2.2.2.1 _ h1) (C.2.2.2.2.1 _ h2) (C.2.2.2.2.1 _ h3) (C.2.2.2.2.1 _ h4) hfr hlo hce hsl d ?_
  have h := k hF H locs ls hP hD hS hl
  unfold jmin at h
  have e : (if i32 b < i32 a then i32 b else i32 a) = i32 (if b < a then b else a) := by
    by_cases q : b < a
    · rw [if_pos q, if_pos ((i32_lt rb ra).mpr q)]
    · rw [if_neg q, if_neg (fun q2 => q ((i32_lt rb ra).mp q2))]
  rw [e]
  exact h
theorem xr_max (C : xC z p s m args meth c cc nL own Ts D cl tys A) {a b : Int} (ra : rng a) (rb : rng b) {ix : Nat} (h1 : Cond.methodLink own ix Lib.Math.max.name ∈ Ts) (h2 : Cond.static Lib.Math.max.name ∈ Ts) (h3 : Cond.initialized "java/lang/Math" ∈ Ts) (h4 : Cond.code Lib.Math.max.name Lib.Math.max.code 2 (some .int) ∈ Ts) (hfr : 1 ≤ R.frames) (hlo : (st.map fun v => v.category).sum + 13 ≤ R.locals) (hce : cells ≤ R.cells) (hsl : slots ≤ R.slots) (d : decode cc pc = .ok (.invokestatic ix, 3)) (k : xX p l e R s m args below meth c D cl A w F σ0 cells slots Q nL σ (pc + 3) lv (.int (i32 (jmax a b)) :: st)) : xX p l e R s m args below meth c D cl A w F σ0 cells slots Q nL σ (pc) lv (.int (i32 b) :: .int (i32 a) :: st) := by
  intro hF H locs ls hP hD hS hl
  refine va_mmax C.1 C.2.1 (by rw [C.2.2.1]; exact hl.1.symm) C.2.2.2.1 (C.2.2.2.2.1 _ h1) (C.2.2.2.2.1 _ h2) (C.2.2.2.2.1 _ h3) (C.2.2.2.2.1 _ h4) hfr hlo hce hsl d ?_
  have h := k hF H locs ls hP hD hS hl
  unfold jmax at h
  have e : (if i32 a < i32 b then i32 b else i32 a) = i32 (if a < b then b else a) := by
    by_cases q : a < b
    · rw [if_pos q, if_pos ((i32_lt ra rb).mpr q)]
    · rw [if_neg q, if_neg (fun q2 => q ((i32_lt ra rb).mp q2))]
  rw [e]
  exact h
theorem xr_copy (C : xC z p s m args meth c cc nL own Ts D cl tys A) {a a0 t0 : Nat} {cA : ClassId} {n0 n1 : Nat} {f g : Nat → Int} {sp dp n : Int} {r : Nat} (q0 q1 : Nat) (ha0 : (w σ)[q0]? = some (a0, .inl (cA, n0, .inl (fun j => i32 (f j))))) (ha1 : (w σ)[q1]? = some (a, .inl (cA, n1, .inl (fun j => i32 (g j))))) (ht : tys[t0]? = some (cA, .int)) (hn0 : n0 ≤ 1000000) (hn1 : n1 ≤ 1000000) {N0 N1 : Int} (hN0 : (n0 : Int) = N0) (hN1 : (n1 : Int) = N1) (hi : 0 ≤ sp ∧ 0 ≤ dp ∧ 0 ≤ n ∧ sp + n ≤ N0 ∧ dp + n ≤ N1) {ix : Nat} (h1 : Cond.methodLink own ix arraycopyName ∈ Ts) (h2 : Cond.native arraycopyName ∈ Ts) (h3 : Cond.static arraycopyName ∈ Ts) (h4 : Cond.initialized "java/lang/System" ∈ Ts) (hset : ∀ sp dp n, (w σ).set q1 (a, .inl (cA, n1, .inl (va_cpy (fun j => i32 (f j)) (fun j => i32 (g j)) sp dp n))) = w (xset σ r (va_cpy f g sp dp n))) (hrF : r ∈ F) (hfr : 1 ≤ R.frames) (hlo : (st.map fun v => v.category).sum + (nativeFrameWords "java/lang/System" "arraycopy" 5 + 11) ≤ R.locals) (d : decode cc pc = .ok (.invokestatic ix, 3)) (k : xX p l e R s m args below meth c D cl A w F σ0 cells slots Q nL (xset σ r (va_cpy f g sp.toNat dp.toNat n.toNat)) (pc + 3) lv (st)) : xX p l e R s m args below meth c D cl A w F σ0 cells slots Q nL σ (pc) lv (.int (i32 n) :: .int (i32 dp) :: .ref a :: .int (i32 sp) :: .ref a0 :: st) := by
  intro hF H locs ls hP hD hS hl
  subst hN0
  subst hN1
  have e1 : (i32 sp).toNatClampNeg = sp.toNat := i32_clamp hi.1 (by omega)
  have e2 : (i32 dp).toNatClampNeg = dp.toNat := i32_clamp hi.2.1 (by omega)
  have e3 : (i32 n).toNatClampNeg = n.toNat := i32_clamp hi.2.2.1 (by omega)
  have nn : ∀ z : Int, 0 ≤ z → z < 2147483648 → ¬ i32 z < 0 := fun z h0 h1 q => by
    have := (i32_lt (a := z) (b := 0) ⟨by omega, h1⟩ rng0).mp q
    omega
  refine va_copyi C.1 C.2.1 (by rw [C.2.2.1]; exact hl.1.symm) C.2.2.2.1 (C.2.2.2.2.1 _ h1) (C.2.2.2.2.1 _ h2) (C.2.2.2.2.1 _ h3) (C.2.2.2.2.1 _ h4) C.2.2.2.2.2.1 hP hD hS q0 q1 t0 t0 ha0 ha1 ht ht rfl (nn sp hi.1 (by omega)) (nn dp hi.2.1 (by omega)) (nn n hi.2.2.1 (by omega)) (by rw [e1, e3]; omega) (by rw [e2, e3]; omega) (fun _ _ => rfl) hfr hlo d (fun H1 locs1 hP1 hD1 hS1 => ?_)
  rw [e1, e2, e3, hset] at hP1 hD1
  exact k (fun k' hk' => (xset_ne (fun e => hk' (by rw [e]; exact hrF))).trans (hF k' hk')) H1 locs1 ls hP1 hD1 hS1 hl
end XR
