def hs_RM : String := RX7
def hs_RF : String := RX3
def hs_frl : List (List Bool) := [[true, true, true, false, false], [true, true, false], [true], [true, true, false, true, false], [true, true, true, true, false], [true, true, true, false, false, false, false, false], [true, true, false, false, false, false, false, false, false, false, false], [true], [true, true], [true, true, true, true, true, true, true, true], [false, true, false, false, false, true, true, true, true, true, true, true, true, true, true, true, true, true, true, true, true, true, false, true, true, true, true, true, true, true, true, false, true, false, true, true, false, false, false, false, false, true, true, true, true, true, false, false]]
def hs_fr (ci j : Nat) : Bool := (hs_frl.getD ci []).getD j false
/-! A STATE OF THE WHOLE SYSTEM: the cells that were made since the law's entry, counted from 0 (the cell k lies at B + k):
how many; of each its kind (a class's number; 100 int[], 101 boolean[], 102 Method[], 103 Frame[]; 999 none), its length, its ints, its references (0 null, k + 1 the cell k) -/
abbrev hs_S : Type := Nat × (Nat → Nat) × (Nat → Nat) × (Nat → Nat → Int32) × (Nat → Nat → Nat)
def hs_kd (g : hs_S) (a : Nat) : Nat := g.2.1 a
def hs_ln (g : hs_S) (a : Nat) : Nat := g.2.2.1 a
def hs_I (g : hs_S) (a j : Nat) : Int32 := g.2.2.2.1 a j
def hs_R (g : hs_S) (a j : Nat) : Nat := g.2.2.2.2 a j
def hs_wI (g : hs_S) (a j : Nat) (v : Int32) : hs_S := (g.1, g.2.1, g.2.2.1, fun b i => if b = a then (if i = j then v else g.2.2.2.1 b i) else g.2.2.2.1 b i, g.2.2.2.2)
def hs_wR (g : hs_S) (a j : Nat) (v : Nat) : hs_S := (g.1, g.2.1, g.2.2.1, g.2.2.2.1, fun b i => if b = a then (if i = j then v + 1 else g.2.2.2.2 b i) else g.2.2.2.2 b i)
def hs_new (g : hs_S) (k n : Nat) : hs_S := (g.1 + 1, fun b => if b = g.1 then k else g.2.1 b, fun b => if b = g.1 then n else g.2.2.1 b, fun b i => if b = g.1 then 0 else g.2.2.2.1 b i, fun b i => if b = g.1 then 0 else g.2.2.2.2 b i)
def hs_0 : hs_S := (0, fun _ => 999, fun _ => 0, fun _ _ => 0, fun _ _ => 0)
/-- an index within, as the machine asks it -/
def hs_in (i : Int32) (n : Nat) : Bool := !(decide (i < 0)) && decide (i.toNatClampNeg < n)
/-- 0 or 1 -/
def hs_01 (x : Int32) : Bool := decide (x = 0) || decide (x = 1)
def hs_bd {α β : Type} (x : Option (α × hs_S)) (f : α → hs_S → Option β) : Option β := match x with
  | none => none
  | some (r, g) => f r g
def hs_bv {β : Type} (x : Option hs_S) (f : hs_S → Option β) : Option β := match x with
  | none => none
  | some g => f g
theorem hs_bd_some {α β : Type} {x : Option (α × hs_S)} {f : α → hs_S → Option β} {y : β} (h : hs_bd x f = some y) : ∃ (r : α) (g : hs_S), x = some (r, g) ∧ f r g = some y := by
  cases x with
  | none => cases h
  | some q => exact ⟨q.1, q.2, rfl, h⟩
theorem hs_bv_some {β : Type} {x : Option hs_S} {f : hs_S → Option β} {y : β} (h : hs_bv x f = some y) : ∃ g : hs_S, x = some g ∧ f g = some y := by
  cases x with
  | none => cases h
  | some q => exact ⟨q, rfl, h⟩
def hs_N : Nat := 4294967296
def hs_b3 {α0 α1 γ : Type} (x : Option (α0 × α1 × hs_S)) (f : α0 → α1 → hs_S → Option γ) : Option γ := match x with
  | none => none
  | some (a0, a1, g) => f a0 a1 g
theorem hs_b3_some {α0 α1 γ : Type} {x : Option (α0 × α1 × hs_S)} {f : α0 → α1 → hs_S → Option γ} {y : γ} (h : hs_b3 x f = some y) : ∃ (a0 : α0) (a1 : α1) (g : hs_S), x = some (a0, a1, g) ∧ f a0 a1 g = some y := by
  cases x with
  | none => cases h
  | some q => exact ⟨q.1, q.2.1, q.2.2, rfl, h⟩
def hs_b4 {α0 α1 α2 γ : Type} (x : Option (α0 × α1 × α2 × hs_S)) (f : α0 → α1 → α2 → hs_S → Option γ) : Option γ := match x with
  | none => none
  | some (a0, a1, a2, g) => f a0 a1 a2 g
theorem hs_b4_some {α0 α1 α2 γ : Type} {x : Option (α0 × α1 × α2 × hs_S)} {f : α0 → α1 → α2 → hs_S → Option γ} {y : γ} (h : hs_b4 x f = some y) : ∃ (a0 : α0) (a1 : α1) (a2 : α2) (g : hs_S), x = some (a0, a1, a2, g) ∧ f a0 a1 a2 g = some y := by
  cases x with
  | none => cases h
  | some q => exact ⟨q.1, q.2.1, q.2.2.1, q.2.2.2, rfl, h⟩
def hs_b5 {α0 α1 α2 α3 γ : Type} (x : Option (α0 × α1 × α2 × α3 × hs_S)) (f : α0 → α1 → α2 → α3 → hs_S → Option γ) : Option γ := match x with
  | none => none
  | some (a0, a1, a2, a3, g) => f a0 a1 a2 a3 g
theorem hs_b5_some {α0 α1 α2 α3 γ : Type} {x : Option (α0 × α1 × α2 × α3 × hs_S)} {f : α0 → α1 → α2 → α3 → hs_S → Option γ} {y : γ} (h : hs_b5 x f = some y) : ∃ (a0 : α0) (a1 : α1) (a2 : α2) (a3 : α3) (g : hs_S), x = some (a0, a1, a2, a3, g) ∧ f a0 a1 a2 a3 g = some y := by
  cases x with
  | none => cases h
  | some q => exact ⟨q.1, q.2.1, q.2.2.1, q.2.2.2.1, q.2.2.2.2, rfl, h⟩
def hs_b6 {α0 α1 α2 α3 α4 γ : Type} (x : Option (α0 × α1 × α2 × α3 × α4 × hs_S)) (f : α0 → α1 → α2 → α3 → α4 → hs_S → Option γ) : Option γ := match x with
  | none => none
  | some (a0, a1, a2, a3, a4, g) => f a0 a1 a2 a3 a4 g
theorem hs_b6_some {α0 α1 α2 α3 α4 γ : Type} {x : Option (α0 × α1 × α2 × α3 × α4 × hs_S)} {f : α0 → α1 → α2 → α3 → α4 → hs_S → Option γ} {y : γ} (h : hs_b6 x f = some y) : ∃ (a0 : α0) (a1 : α1) (a2 : α2) (a3 : α3) (a4 : α4) (g : hs_S), x = some (a0, a1, a2, a3, a4, g) ∧ f a0 a1 a2 a3 a4 g = some y := by
  cases x with
  | none => cases h
  | some q => exact ⟨q.1, q.2.1, q.2.2.1, q.2.2.2.1, q.2.2.2.2.1, q.2.2.2.2.2, rfl, h⟩
theorem hs_ck {β : Type} {c : Prop} {i : Decidable c} {x : Option β} {y : β} (h : @ite _ c i x none = some y) : c ∧ x = some y := by
  by_cases hc : c
  · exact ⟨hc, by rw [if_pos hc] at h; exact h⟩
  · rw [if_neg hc] at h; cases h
theorem hs_t {β : Type} {c : Prop} {i : Decidable c} {x z y : Option β} (h : @ite _ c i x z = y) (hc : c) : x = y := by rw [if_pos hc] at h; exact h
theorem hs_f {β : Type} {c : Prop} {i : Decidable c} {x z y : Option β} (h : @ite _ c i x z = y) (hc : ¬ c) : z = y := by rw [if_neg hc] at h; exact h
theorem hs_ft {β : Type} {c : Prop} {i : Decidable c} {x z y : Option β} (h : @ite _ c i x z = y) (hc : ¬ ¬ c) : x = y := hs_t h (Decidable.not_not.mp hc)
theorem hs_in_vp {i : Int32} {n : Nat} (h : hs_in i n = true) : vp_in i n := by
  simp only [hs_in, Bool.and_eq_true, Bool.not_eq_true', decide_eq_false_iff_not, decide_eq_true_eq] at h
  exact fun q => q.elim h.1 (fun z => absurd h.2 (Nat.not_lt.mpr z))
theorem hs_01_nar {x : Int32} (h : hs_01 x = true) : narrow .boolean (.int x) = .int x := by
  simp only [hs_01, Bool.or_eq_true, decide_eq_true_eq] at h
  rcases h with rfl | rfl <;> rfl
theorem hs_01_fit {x : Int32} (h : hs_01 x = true) : fits .boolean (.int x) = true := by
  simp only [hs_01, Bool.or_eq_true, decide_eq_true_eq] at h
  rcases h with rfl | rfl <;> rfl
def hs_rv (B : Nat) : Nat → Value
  | 0 => .null
  | k + 1 => .ref (B + k)
def hs_ro (B : Nat) : Nat → Option Nat
  | 0 => none
  | k + 1 => some (B + k)
theorem hs_ro_rv (B r : Nat) : va_rf (hs_ro B r) = hs_rv B r := by cases r <;> rfl
theorem hs_rv_ne {B r : Nat} (h : ¬ r = 0) : hs_rv B r = .ref (B + (r - 1)) := by
  cases r with
  | zero => exact absurd rfl h
  | succ k => rfl
/-- the fields of the cell a, of class ci, as values -/
def hs_V (B : Nat) (g : hs_S) (a ci : Nat) (j : Nat) : Value := if hs_fr ci j = true then hs_rv B (hs_R g a j) else .int (hs_I g a j)
/-- what the heap holds at B + a -/
def hs_at (B : Nat) (D : va_G) (E : Nat → ClassId) (g : hs_S) (H : Heap) (a : Nat) : Prop :=
  if hs_kd g a < 100 then ∃ r : vw_C, vwCl[hs_kd g a]? = some r ∧ t_OB (B + a) (D.1 (hs_kd g a)) r.2.2 (D.2 (hs_kd g a)) H (hs_V B g a (hs_kd g a))
  else if hs_kd g a < 102 then H[B + a]? = some (vp_cell (E (hs_kd g a - 100)) (hs_ln g a, .inl (hs_I g a)))
  else H[B + a]? = some (vp_cell (E (hs_kd g a - 100)) (hs_ln g a, .inr (.inr (.inr (.inr (fun j => hs_ro B (hs_R g a j)))))))
def hs_P (B : Nat) (D : va_G) (E : Nat → ClassId) (g : hs_S) (H : Heap) : Prop := H.size = B + g.1 ∧ (∀ a, a < g.1 → hs_at B D E g H a) ∧ ∀ a, g.1 ≤ a → hs_kd g a = 999
def hs_ty (E : Nat → ClassId) : List (ClassId × FieldType) := [(E 0, .int), (E 1, .boolean), (E 2, .object hs_RM), (E 3, .object hs_RF)]
/-- what the tables say: the classes' numbers and slots, the array classes, the links between nest mates -/
def hs_K (D : va_G) (E : Nat → ClassId) (U : State) : Prop := va_K D vwCl (hs_ty E) U ∧ va_AO hs_RM U ∧ va_AO hs_RF U ∧ va_Nw (.methodLinkNest RX2 11 yX1_init "StepRewriter") U ∧ va_Nw (.methodLinkNest RX6 19 yX10_init "StepRewriter") U ∧ va_Nw (.methodLinkNest RX11 36 yX2_init "StepRewriter") U ∧ va_Nw (.methodLinkNest RX11 43 yX5_init "StepRewriter") U
theorem hs_K.warm {D : va_G} {E : Nat → ClassId} {s U : State} (hW : s.WarmedH U.vm) (h : hs_K D E s) : hs_K D E U :=
  ⟨va_K.moved hW.alike h.1, h.2.1.moved hW.alike, h.2.2.1.moved hW.alike, va_Nw.warmM hW h.2.2.2.1, va_Nw.warmM hW h.2.2.2.2.1, va_Nw.warmM hW h.2.2.2.2.2.1, va_Nw.warmM hW h.2.2.2.2.2.2⟩
theorem hs_K.same {D : va_G} {E : Nat → ClassId} {s U : State} (hV : s.vm = U.vm) (h : hs_K D E s) : hs_K D E U := by
  have hA : s.vm.Alike U.vm := hV ▸ Vm.Alike.refl s.vm
  exact ⟨va_K.moved hA h.1, h.2.1.moved hA, h.2.2.1.moved hA, va_Nw.same rfl hV h.2.2.2.1, va_Nw.same rfl hV h.2.2.2.2.1, va_Nw.same rfl hV h.2.2.2.2.2.1, va_Nw.same rfl hV h.2.2.2.2.2.2⟩
/-- what a method's walk keeps beside the state: the cells below B as they were, its writes at or above B -/
abbrev hs_Sx (B : Nat) (H0 H : Heap) (locs : List Loc) : Prop := va_S (fun q : Nat => B ≤ q) H0 H locs
theorem hs_lt {B : Nat} {D : va_G} {E : Nat → ClassId} {g : hs_S} {H : Heap} (hP : hs_P B D E g H) {a k : Nat} (hk : hs_kd g a = k) (h : k < 999) : a < g.1 :=
  Nat.lt_of_not_le fun q => by have := hP.2.2 a q; omega
theorem hs_obj {B : Nat} {D : va_G} {E : Nat → ClassId} {g : hs_S} {H : Heap} (hP : hs_P B D E g H) {a ci : Nat} (hk : hs_kd g a = ci) (h : ci < 100) {r : vw_C} (hc : vwCl[ci]? = some r) :
    t_OB (B + a) (D.1 ci) r.2.2 (D.2 ci) H (hs_V B g a ci) := by
  have h1 := hP.2.1 a (hs_lt hP hk (by omega))
  unfold hs_at at h1
  rw [hk, if_pos h] at h1
  obtain ⟨r', h2, h3⟩ := h1
  cases h2.symm.trans hc
  exact h3
theorem hs_arrI {B : Nat} {D : va_G} {E : Nat → ClassId} {g : hs_S} {H : Heap} (hP : hs_P B D E g H) {a t : Nat} (hk : hs_kd g a = 100 + t) (h : t < 2) :
    H[B + a]? = some (arrV (E t) (hs_ln g a) (fun j => .int (hs_I g a j))) := by
  have h1 := hP.2.1 a (hs_lt hP hk (by omega))
  unfold hs_at at h1
  rw [hk, if_neg (by omega), if_pos (by omega), Nat.add_sub_cancel_left] at h1
  exact h1
theorem hs_arrR {B : Nat} {D : va_G} {E : Nat → ClassId} {g : hs_S} {H : Heap} (hP : hs_P B D E g H) {a t : Nat} (hk : hs_kd g a = 100 + t) (h : 2 ≤ t) (h' : t < 4) :
    H[B + a]? = some (arrV (E t) (hs_ln g a) (fun j => hs_rv B (hs_R g a j))) := by
  have h1 := hP.2.1 a (hs_lt hP hk (by omega))
  unfold hs_at at h1
  rw [hk, if_neg (by omega), if_neg (by omega), Nat.add_sub_cancel_left] at h1
  rw [h1, vp_cell_q]
  simp only [hs_ro_rv]
/-- another cell's change leaves a cell -/
theorem hs_at_kept {B : Nat} {D : va_G} {E : Nat → ClassId} {g g' : hs_S} {H H' : Heap} {b : Nat} (h : hs_at B D E g H b) (hH : H'[B + b]? = H[B + b]?) (hk : hs_kd g' b = hs_kd g b) (hn : hs_ln g' b = hs_ln g b) (hI : hs_I g' b = hs_I g b) (hR : hs_R g' b = hs_R g b) : hs_at B D E g' H' b := by
  unfold hs_at hs_V at *
  rw [hk, hn, hI, hR]
  split
  · rename_i hc
    rw [if_pos hc] at h
    obtain ⟨r, h1, h2⟩ := h
    exact ⟨r, h1, h2.kept hH⟩
  · rename_i hc
    rw [if_neg hc] at h
    split
    · rename_i hd
      rw [if_pos hd] at h
      rw [hH]; exact h
    · rename_i hd
      rw [if_neg hd] at h
      rw [hH]; exact h
theorem hs_I_wI_ne {g : hs_S} {a j : Nat} {v : Int32} {b : Nat} (h : ¬ b = a) : hs_I (hs_wI g a j v) b = hs_I g b := by
  funext i; simp [hs_I, hs_wI, h]
theorem hs_R_wR_ne {g : hs_S} {a j v b : Nat} (h : ¬ b = a) : hs_R (hs_wR g a j v) b = hs_R g b := by
  funext i; simp [hs_R, hs_wR, h]
theorem hs_I_wI (g : hs_S) (a j : Nat) (v : Int32) (b i : Nat) : hs_I (hs_wI g a j v) b i = if b = a then (if i = j then v else hs_I g b i) else hs_I g b i := rfl
theorem hs_R_wR (g : hs_S) (a j v b i : Nat) : hs_R (hs_wR g a j v) b i = if b = a then (if i = j then v + 1 else hs_R g b i) else hs_R g b i := rfl
/-- the state behind a write to the cell a -/
theorem hs_P_wr {B : Nat} {D : va_G} {E : Nat → ClassId} {g g' : hs_S} {H H' : Heap} {a : Nat} (hP : hs_P B D E g H) (hz : H'.size = H.size) (oq : ∀ q : Nat, q ≠ B + a → H'[q]? = H[q]?) (e1 : g'.1 = g.1) (e2 : g'.2.1 = g.2.1) (e3 : g'.2.2.1 = g.2.2.1) (e4 : ∀ b, ¬ b = a → hs_I g' b = hs_I g b ∧ hs_R g' b = hs_R g b) (h : hs_at B D E g' H' a) : hs_P B D E g' H' := by
  refine ⟨by rw [hz, hP.1, e1], fun b hb => ?_, fun b hb => ?_⟩
  · by_cases hba : b = a
    · rw [hba]; exact h
    · rw [e1] at hb
      exact hs_at_kept (hP.2.1 b hb) (oq _ (by omega)) (by unfold hs_kd; rw [e2]) (by unfold hs_ln; rw [e3]) (e4 b hba).1 (e4 b hba).2
  · rw [e1] at hb
    have := hP.2.2 b hb
    unfold hs_kd at *
    rw [e2]; exact this
/-- the state behind a new cell -/
theorem hs_P_new {B : Nat} {D : va_G} {E : Nat → ClassId} {g : hs_S} {H H' : Heap} {k n : Nat} (hP : hs_P B D E g H) (hz : H'.size = B + g.1 + 1) (oq : ∀ q : Nat, q < B + g.1 → H'[q]? = H[q]?) (h : hs_at B D E (hs_new g k n) H' g.1) : hs_P B D E (hs_new g k n) H' := by
  refine ⟨by rw [hz]; show _ = B + (g.1 + 1); omega, fun b hb => ?_, fun b hb => ?_⟩
  · by_cases hba : b = g.1
    · rw [hba]; exact h
    · have hb' : b < g.1 := by have : b < g.1 + 1 := hb; omega
      refine hs_at_kept (hP.2.1 b hb') (oq _ (by omega)) ?_ ?_ ?_ ?_
      · simp [hs_kd, hs_new, hba]
      · simp [hs_ln, hs_new, hba]
      · funext i; simp [hs_I, hs_new, hba]
      · funext i; simp [hs_R, hs_new, hba]
  · have hb' : g.1 + 1 ≤ b := hb
    have := hP.2.2 b (by omega)
    unfold hs_kd at *
    simp only [hs_new]
    rw [if_neg (by omega)]; exact this
section HSR
variable {p : Program} {l : Launch} {e : Env} {R : Room} {s : State} {m : MethodId} {args : Array Value} {below : List Frame} {meth : Method} {c : Code} {H : Heap} {locs : List Loc} {cells slots : Nat} {Q : State → Prop}
variable {cc : ByteArray} {pc : Nat} {ls : Array Slot} {rest : List Value} {B : Nat} {D : va_G} {E : Nat → ClassId} {g : hs_S} {a : Nat} {H0 : Heap}
theorem hs_getv (hexec : p.tables.exec = Jvm.exec) (hb : c.code = cc) {own ref C : String} {T : u_T} {N ci index : Nat} {Ts : List Cond} (hts : ∀ w ∈ Ts, w.before args s = true) (hin : ∀ w ∈ u_ws C T N, w ∈ Ts) (hown : s.vm.findClass own = some m.cls) (hK : va_K D vwCl (hs_ty E) s) (hP : hs_P B D E g H) (hk : hs_kd g a = ci) (hci : ci < 100) (hc : vwCl[ci]? = some (C, T, N)) (k : Nat) (hkN : k < N) (hlink : (Cond.fieldLink own index ref (T k).2.1 (T k).2.2.1).before args s = true) (hsame : ∀ x, s.fieldFound? (T k).1 (T k).2.1 (T k).2.2.1 = some x → s.fieldFound? ref (T k).2.1 (T k).2.2.1 = some x) {v : Value} (hv : hs_V B g a ci k = v) (hdg : decode cc pc = .ok (.getfield index, 3))
    (kk : W p l e R s m args below meth c H locs cells slots Q (F0 m (pc + 3) ls (v :: rest))) : W p l e R s m args below meth c H locs cells slots Q (F0 m pc ls (.ref (B + a) :: rest)) := by
  obtain ⟨cell, q1, q2, q3, q4⟩ := hs_obj hP hk hci hc
  obtain ⟨hS, hfc, kC, hkC, hkind⟩ := hK.1 ci _ hc
  obtain ⟨cf, kf, fi, f, hi, hsl⟩ := hS k hkN
  refine W.getf hexec hb hown hlink (hsame _ hi) (u_facts hfc hkC (u_lays hts hin hkN) hi).1 q1 (by rw [q3]; exact fun h => by cases h) (v := v) ?_ rfl rfl hdg kk
  rw [hsl, q4 k hkN, hv]
theorem hs_geti (hexec : p.tables.exec = Jvm.exec) (hb : c.code = cc) {own ref C : String} {T : u_T} {N ci index : Nat} {Ts : List Cond} (hts : ∀ w ∈ Ts, w.before args s = true) (hin : ∀ w ∈ u_ws C T N, w ∈ Ts) (hown : s.vm.findClass own = some m.cls) (hK : va_K D vwCl (hs_ty E) s) (hP : hs_P B D E g H) (hk : hs_kd g a = ci) (hci : ci < 100) (hc : vwCl[ci]? = some (C, T, N)) (k : Nat) (hkN : k < N) (hlink : (Cond.fieldLink own index ref (T k).2.1 (T k).2.2.1).before args s = true) (hsame : ∀ x, s.fieldFound? (T k).1 (T k).2.1 (T k).2.2.1 = some x → s.fieldFound? ref (T k).2.1 (T k).2.2.1 = some x) (hfr : hs_fr ci k = false) (hdg : decode cc pc = .ok (.getfield index, 3))
    (kk : W p l e R s m args below meth c H locs cells slots Q (F0 m (pc + 3) ls (.int (hs_I g a k) :: rest))) : W p l e R s m args below meth c H locs cells slots Q (F0 m pc ls (.ref (B + a) :: rest)) :=
  hs_getv hexec hb hts hin hown hK hP hk hci hc k hkN hlink hsame (by simp [hs_V, hfr]) hdg kk
theorem hs_getr (hexec : p.tables.exec = Jvm.exec) (hb : c.code = cc) {own ref C : String} {T : u_T} {N ci index : Nat} {Ts : List Cond} (hts : ∀ w ∈ Ts, w.before args s = true) (hin : ∀ w ∈ u_ws C T N, w ∈ Ts) (hown : s.vm.findClass own = some m.cls) (hK : va_K D vwCl (hs_ty E) s) (hP : hs_P B D E g H) (hk : hs_kd g a = ci) (hci : ci < 100) (hc : vwCl[ci]? = some (C, T, N)) (k : Nat) (hkN : k < N) (hlink : (Cond.fieldLink own index ref (T k).2.1 (T k).2.2.1).before args s = true) (hsame : ∀ x, s.fieldFound? (T k).1 (T k).2.1 (T k).2.2.1 = some x → s.fieldFound? ref (T k).2.1 (T k).2.2.1 = some x) (hfr : hs_fr ci k = true) (hne : ¬ hs_R g a k = 0) (hdg : decode cc pc = .ok (.getfield index, 3))
    (kk : W p l e R s m args below meth c H locs cells slots Q (F0 m (pc + 3) ls (.ref (B + (hs_R g a k - 1)) :: rest))) : W p l e R s m args below meth c H locs cells slots Q (F0 m pc ls (.ref (B + a) :: rest)) :=
  hs_getv hexec hb hts hin hown hK hP hk hci hc k hkN hlink hsame (by simp [hs_V, hfr, hs_rv_ne hne]) hdg kk
theorem hs_put0 (hexec : p.tables.exec = Jvm.exec) (hb : c.code = cc) {own ref C : String} {T : u_T} {N ci index : Nat} {Ts : List Cond} (hts : ∀ w ∈ Ts, w.before args s = true) (hin : ∀ w ∈ u_ws C T N, w ∈ Ts) (ty0 : Nat → FieldType) (hty : ∀ k, k < N → parseFieldDescriptor (T k).2.2.1 = some (ty0 k)) (hnm : ∀ a, a < N → ∀ b, b < N → a ≠ b → (T a).2.1 ≠ (T b).2.1) (hown : s.vm.findClass own = some m.cls) (hK : va_K D vwCl (hs_ty E) s) (hP : hs_P B D E g H) (hS0 : hs_Sx B H0 H locs) (hk : hs_kd g a = ci) (hci : ci < 100) (hc : vwCl[ci]? = some (C, T, N)) (k : Nat) (hkN : k < N) (hlink : (Cond.fieldLink own index ref (T k).2.1 (T k).2.2.1).before args s = true) (hsame : ∀ x, s.fieldFound? (T k).1 (T k).2.1 (T k).2.2.1 = some x → s.fieldFound? ref (T k).2.1 (T k).2.2.1 = some x) (hfin : (T k).2.2.2 = false ∨ ((T k).2.2.2 = true ∧ meth.name = "<init>" ∧ (T k).1 = own)) {v : Value} (hn : narrow (ty0 k) v = v) (hfit : fits (ty0 k) v = true)
    {g' : hs_S} (e1 : g'.1 = g.1) (e2 : g'.2.1 = g.2.1) (e3 : g'.2.2.1 = g.2.2.1) (e4 : ∀ b, ¬ b = a → hs_I g' b = hs_I g b ∧ hs_R g' b = hs_R g b) (e5 : ∀ j, j < N → updV (hs_V B g a ci) k v j = hs_V B g' a ci j)
    (hdg : decode cc pc = .ok (.putfield index, 3)) (kk : ∀ (H1 : Heap) (locs1 : List Loc), hs_P B D E g' H1 → hs_Sx B H0 H1 locs1 → W p l e R s m args below meth c H1 locs1 cells slots Q (F0 m (pc + 3) ls rest)) : W p l e R s m args below meth c H locs cells slots Q (F0 m pc ls (v :: .ref (B + a) :: rest)) := by
  have hap := va_apart (own := own) hts hin ty0 hty hnm hK hc
  have hd := hty k hkN
  obtain ⟨cell, q1, q2, q3, q4⟩ := hs_obj hP hk hci hc
  obtain ⟨hS, hfc, kC, hkC, hkind⟩ := hK.1 ci _ hc
  obtain ⟨cf, kf, fi, f, hi, hsl⟩ := hS k hkN
  have hlay := hts _ (hin _ (u_in_lay hkN))
  unfold u_lay at hlay
  have hst := (u_facts hfc hkC (u_lays hts hin hkN) hi).1
  have fin : ∀ (H1 : Heap), H1[B + a]? = some (cell.setSlot f.slot v) → H1.size = H.size → (∀ q : Nat, q ≠ B + a → H1[q]? = H[q]?) → W p l e R s m args below meth c H1 (locs ++ [⟨B + a, f.slot⟩]) cells slots Q (F0 m (pc + 3) ls rest) := by
    intro H1 x1 x2 x3
    refine kk H1 _ (hs_P_wr hP x2 x3 e1 e2 e3 e4 ?_) (hS0.put x2 x3 (Nat.le_add_right B a))
    have hk' : hs_kd g' a = ci := by unfold hs_kd at *; rw [e2]; exact hk
    unfold hs_at
    rw [hk', if_pos hci]
    rw [hsl] at x1
    exact ⟨_, hc, t_OB.to (V := updV (hs_V B g a ci) k v) ⟨_, x1, q2, q3, t_set q4 hap hkN v⟩ e5⟩
  rcases hfin with hfin | ⟨hfin, hin2, hdecl⟩
  · rw [if_neg (by rw [hfin]; decide)] at hlay
    have h6 := u_store hfc hkC hkind hlay hi hd hn hfit
    exact W.putK hexec hb (f := f) ⟨hown, hlink, ⟨_, _, _, hsame _ hi⟩, hst⟩ (by rw [q2]; exact h6) q1 q3 (by rw [hsl]; exact k2_hasslot (q4 k hkN)) rfl rfl hdg fin
  · rw [if_pos hfin] at hlay
    have hcf : m.cls = cf := by
      obtain ⟨_, _, c', _, _, _, -, -, hf', -, -, -, hown2, -⟩ := Cond.laysFinal_spec hlay
      have x1 : c' = cf := by have := hi.symm.trans hf'; simp at this; exact this.1.symm
      rw [hdecl] at hown2
      rw [← x1]; exact Option.some.inj (hown.symm.trans hown2)
    have h6 := u_fits hfc hkC hkind (Or.inr hlay) hi hd hn hfit
    exact W.putFinK hexec hb hown hlink (hsame _ hi) hst hcf hin2 (by rw [q2]; exact h6) q1 q3 (by rw [hsl]; exact k2_hasslot (q4 k hkN)) rfl rfl hdg fin
theorem hs_puti (hexec : p.tables.exec = Jvm.exec) (hb : c.code = cc) {own ref C : String} {T : u_T} {N ci index : Nat} {Ts : List Cond} (hts : ∀ w ∈ Ts, w.before args s = true) (hin : ∀ w ∈ u_ws C T N, w ∈ Ts) (ty0 : Nat → FieldType) (hty : ∀ k, k < N → parseFieldDescriptor (T k).2.2.1 = some (ty0 k)) (hnm : ∀ a, a < N → ∀ b, b < N → a ≠ b → (T a).2.1 ≠ (T b).2.1) (hown : s.vm.findClass own = some m.cls) (hK : va_K D vwCl (hs_ty E) s) (hP : hs_P B D E g H) (hS0 : hs_Sx B H0 H locs) (hk : hs_kd g a = ci) (hci : ci < 100) (hc : vwCl[ci]? = some (C, T, N)) (k : Nat) (hkN : k < N) (hlink : (Cond.fieldLink own index ref (T k).2.1 (T k).2.2.1).before args s = true) (hsame : ∀ x, s.fieldFound? (T k).1 (T k).2.1 (T k).2.2.1 = some x → s.fieldFound? ref (T k).2.1 (T k).2.2.1 = some x) (hfin : (T k).2.2.2 = false ∨ ((T k).2.2.2 = true ∧ meth.name = "<init>" ∧ (T k).1 = own)) {v : Int32} (hn : narrow (ty0 k) (.int v) = .int v) (hfit : fits (ty0 k) (.int v) = true) (hfr : hs_fr ci k = false)
    (hdg : decode cc pc = .ok (.putfield index, 3)) (kk : ∀ (H1 : Heap) (locs1 : List Loc), hs_P B D E (hs_wI g a k v) H1 → hs_Sx B H0 H1 locs1 → W p l e R s m args below meth c H1 locs1 cells slots Q (F0 m (pc + 3) ls rest)) : W p l e R s m args below meth c H locs cells slots Q (F0 m pc ls (.int v :: .ref (B + a) :: rest)) := by
  refine hs_put0 hexec hb hts hin ty0 hty hnm hown hK hP hS0 hk hci hc k hkN hlink hsame hfin hn hfit (g' := hs_wI g a k v) rfl rfl rfl (fun b hb => ⟨hs_I_wI_ne hb, rfl⟩) (fun j _ => ?_) hdg kk
  by_cases hj : j = k
  · subst hj; simp [updV, hs_V, hfr, hs_I_wI]
  · simp only [updV, hs_V, hs_I_wI, hj, if_false, if_true]; rfl
theorem hs_putr (hexec : p.tables.exec = Jvm.exec) (hb : c.code = cc) {own ref C : String} {T : u_T} {N ci index : Nat} {Ts : List Cond} (hts : ∀ w ∈ Ts, w.before args s = true) (hin : ∀ w ∈ u_ws C T N, w ∈ Ts) (ty0 : Nat → FieldType) (hty : ∀ k, k < N → parseFieldDescriptor (T k).2.2.1 = some (ty0 k)) (hnm : ∀ a, a < N → ∀ b, b < N → a ≠ b → (T a).2.1 ≠ (T b).2.1) (hown : s.vm.findClass own = some m.cls) (hK : va_K D vwCl (hs_ty E) s) (hP : hs_P B D E g H) (hS0 : hs_Sx B H0 H locs) (hk : hs_kd g a = ci) (hci : ci < 100) (hc : vwCl[ci]? = some (C, T, N)) (k : Nat) (hkN : k < N) (hlink : (Cond.fieldLink own index ref (T k).2.1 (T k).2.2.1).before args s = true) (hsame : ∀ x, s.fieldFound? (T k).1 (T k).2.1 (T k).2.2.1 = some x → s.fieldFound? ref (T k).2.1 (T k).2.2.1 = some x) (hfin : (T k).2.2.2 = false ∨ ((T k).2.2.2 = true ∧ meth.name = "<init>" ∧ (T k).1 = own)) {v : Nat} (hn : ∀ z : Nat, narrow (ty0 k) (.ref z) = .ref z) (hfit : ∀ z : Nat, fits (ty0 k) (.ref z) = true) (hfr : hs_fr ci k = true)
    (hdg : decode cc pc = .ok (.putfield index, 3)) (kk : ∀ (H1 : Heap) (locs1 : List Loc), hs_P B D E (hs_wR g a k v) H1 → hs_Sx B H0 H1 locs1 → W p l e R s m args below meth c H1 locs1 cells slots Q (F0 m (pc + 3) ls rest)) : W p l e R s m args below meth c H locs cells slots Q (F0 m pc ls (.ref (B + v) :: .ref (B + a) :: rest)) := by
  refine hs_put0 hexec hb hts hin ty0 hty hnm hown hK hP hS0 hk hci hc k hkN hlink hsame hfin (hn _) (hfit _) (g' := hs_wR g a k v) rfl rfl rfl (fun b hb => ⟨rfl, hs_R_wR_ne hb⟩) (fun j _ => ?_) hdg kk
  by_cases hj : j = k
  · subst hj; simp [updV, hs_V, hfr, hs_R_wR, hs_rv]
  · simp only [updV, hs_V, hs_R_wR, hj, if_false, if_true]; rfl
theorem hs_alen (hexec : p.tables.exec = Jvm.exec) (hb : c.code = cc) (hK : va_K D vwCl (hs_ty E) s) (hP : hs_P B D E g H) {t : Nat} (hk : hs_kd g a = 100 + t) (ht : t < 4) (hdg : decode cc pc = .ok (.arraylength, 1))
    (kk : W p l e R s m args below meth c H locs cells slots Q (F0 m (pc + 1) ls (.int (Int32.ofNat (hs_ln g a)) :: rest))) : W p l e R s m args below meth c H locs cells slots Q (F0 m pc ls (.ref (B + a) :: rest)) := by
  by_cases h2 : t < 2
  · have h := hs_arrI hP hk h2
    rcases (show t = 0 ∨ t = 1 by omega) with rfl | rfl
    · exact W.alen (n := Int32.ofNat (hs_ln g a)) hexec hb h ((hK.2 0 _ rfl).1 _ _) (by rw [arrV_size] <;> rfl) rfl rfl hdg kk
    · exact W.alen (n := Int32.ofNat (hs_ln g a)) hexec hb h ((hK.2 1 _ rfl).1 _ _) (by rw [arrV_size] <;> rfl) rfl rfl hdg kk
  · have h := hs_arrR hP hk (by omega) ht
    rcases (show t = 2 ∨ t = 3 by omega) with rfl | rfl
    · exact W.alen (n := Int32.ofNat (hs_ln g a)) hexec hb h ((hK.2 2 _ rfl).1 _ _) (by rw [arrV_size] <;> rfl) rfl rfl hdg kk
    · exact W.alen (n := Int32.ofNat (hs_ln g a)) hexec hb h ((hK.2 3 _ rfl).1 _ _) (by rw [arrV_size] <;> rfl) rfl rfl hdg kk
theorem hs_iald (hexec : p.tables.exec = Jvm.exec) (hb : c.code = cc) (hK : va_K D vwCl (hs_ty E) s) (hP : hs_P B D E g H) (hk : hs_kd g a = 100) {i : Int32} (hin : hs_in i (hs_ln g a) = true) (hdg : decode cc pc = .ok (.iaload, 1))
    (kk : W p l e R s m args below meth c H locs cells slots Q (F0 m (pc + 1) ls (.int (hs_I g a i.toNatClampNeg) :: rest))) : W p l e R s m args below meth c H locs cells slots Q (F0 m pc ls (.int i :: .ref (B + a) :: rest)) := by
  have hi := hs_in_vp hin
  have hlt : i.toNatClampNeg < hs_ln g a := Nat.not_le.mp fun q => hi (Or.inr q)
  exact W.iald (v := .int (hs_I g a i.toNatClampNeg)) hexec hb (hs_arrI hP (t := 0) hk (by decide)) ((hK.2 0 _ rfl).1 _ _) (fun q => by cases q) (by rw [arrV_size]; exact hi) (by rw [arrV_read _ _ hlt]) rfl rfl hdg kk
theorem hs_zald (hexec : p.tables.exec = Jvm.exec) (hb : c.code = cc) (hK : va_K D vwCl (hs_ty E) s) (hP : hs_P B D E g H) (hk : hs_kd g a = 101) {i : Int32} (hin : hs_in i (hs_ln g a) = true) (hdg : decode cc pc = .ok (.baload, 1))
    (kk : W p l e R s m args below meth c H locs cells slots Q (F0 m (pc + 1) ls (.int (hs_I g a i.toNatClampNeg) :: rest))) : W p l e R s m args below meth c H locs cells slots Q (F0 m pc ls (.int i :: .ref (B + a) :: rest)) := by
  have hi := hs_in_vp hin
  have hlt : i.toNatClampNeg < hs_ln g a := Nat.not_le.mp fun q => hi (Or.inr q)
  exact W.zald (v := .int (hs_I g a i.toNatClampNeg)) hexec hb (hs_arrI hP (t := 1) hk (by decide)) ((hK.2 1 _ rfl).1 _ _) (fun q => by cases q) (by rw [arrV_size]; exact hi) (by rw [arrV_read _ _ hlt]) rfl rfl hdg kk
theorem hs_aald (hexec : p.tables.exec = Jvm.exec) (hb : c.code = cc) (hK : va_K D vwCl (hs_ty E) s) (hP : hs_P B D E g H) {t : Nat} (hk : hs_kd g a = 100 + t) (h2 : 2 ≤ t) (h4 : t < 4) {i : Int32} (hin : hs_in i (hs_ln g a) = true) (hne : ¬ hs_R g a i.toNatClampNeg = 0) (hdg : decode cc pc = .ok (.aaload, 1))
    (kk : W p l e R s m args below meth c H locs cells slots Q (F0 m (pc + 1) ls (.ref (B + (hs_R g a i.toNatClampNeg - 1)) :: rest))) : W p l e R s m args below meth c H locs cells slots Q (F0 m pc ls (.int i :: .ref (B + a) :: rest)) := by
  have hi := hs_in_vp hin
  have hlt : i.toNatClampNeg < hs_ln g a := Nat.not_le.mp fun q => hi (Or.inr q)
  have h := hs_arrR hP hk h2 h4
  rcases (show t = 2 ∨ t = 3 by omega) with rfl | rfl
  · exact W.aald (v := .ref (B + (hs_R g a i.toNatClampNeg - 1))) hexec hb h ((hK.2 2 _ rfl).1 _ _) rfl (fun q => by cases q) (by rw [arrV_size]; exact hi) (by rw [arrV_read _ _ hlt, hs_rv_ne hne]) rfl rfl hdg kk
  · exact W.aald (v := .ref (B + (hs_R g a i.toNatClampNeg - 1))) hexec hb h ((hK.2 3 _ rfl).1 _ _) rfl (fun q => by cases q) (by rw [arrV_size]; exact hi) (by rw [arrV_read _ _ hlt, hs_rv_ne hne]) rfl rfl hdg kk
theorem hs_at_arrI {g' : hs_S} {H' : Heap} {t : Nat} (hk : hs_kd g' a = 100 + t) (h : t < 2) (hH : H'[B + a]? = some (arrV (E t) (hs_ln g' a) (fun j => .int (hs_I g' a j)))) : hs_at B D E g' H' a := by
  unfold hs_at
  rw [hk, if_neg (by omega), if_pos (by omega), Nat.add_sub_cancel_left]
  exact hH
theorem hs_at_arrR {g' : hs_S} {H' : Heap} {t : Nat} (hk : hs_kd g' a = 100 + t) (h : 2 ≤ t) (hH : H'[B + a]? = some (arrV (E t) (hs_ln g' a) (fun j => hs_rv B (hs_R g' a j)))) : hs_at B D E g' H' a := by
  unfold hs_at
  rw [hk, if_neg (by omega), if_neg (by omega), Nat.add_sub_cancel_left, vp_cell_q]
  simp only [hs_ro_rv]
  exact hH
theorem hs_iast (hexec : p.tables.exec = Jvm.exec) (hb : c.code = cc) (hK : va_K D vwCl (hs_ty E) s) (hP : hs_P B D E g H) (hS : hs_Sx B H0 H locs) (hk : hs_kd g a = 100) {i x : Int32} (hin : hs_in i (hs_ln g a) = true) (hdg : decode cc pc = .ok (.iastore, 1))
    (kk : ∀ (H1 : Heap) (locs1 : List Loc), hs_P B D E (hs_wI g a i.toNatClampNeg x) H1 → hs_Sx B H0 H1 locs1 → W p l e R s m args below meth c H1 locs1 cells slots Q (F0 m (pc + 1) ls rest)) : W p l e R s m args below meth c H locs cells slots Q (F0 m pc ls (.int x :: .int i :: .ref (B + a) :: rest)) := by
  have hi := hs_in_vp hin
  refine W.iast hexec hb (hs_arrI hP (t := 0) hk (by decide)) ((hK.2 0 _ rfl).1 _ _) (fun q => by cases q) (by rw [arrV_size]; exact hi) rfl rfl hdg fun H1 x1 z oq => ?_
  refine kk H1 _ (hs_P_wr hP z oq rfl rfl rfl (fun b hb => ⟨hs_I_wI_ne hb, rfl⟩) (hs_at_arrI (t := 0) hk (by decide) ?_)) (hS.put z oq (Nat.le_add_right B a))
  rw [x1, arrV_store]
  congr 2
  funext q
  by_cases hq : q = i.toNatClampNeg
  · subst hq; simp [updV, hs_I_wI]
  · simp [updV, hs_I_wI, hq]
theorem hs_zast (hexec : p.tables.exec = Jvm.exec) (hb : c.code = cc) (hK : va_K D vwCl (hs_ty E) s) (hP : hs_P B D E g H) (hS : hs_Sx B H0 H locs) (hk : hs_kd g a = 101) {i x : Int32} (hin : hs_in i (hs_ln g a) = true) (h01 : hs_01 x = true) (hdg : decode cc pc = .ok (.bastore, 1))
    (kk : ∀ (H1 : Heap) (locs1 : List Loc), hs_P B D E (hs_wI g a i.toNatClampNeg x) H1 → hs_Sx B H0 H1 locs1 → W p l e R s m args below meth c H1 locs1 cells slots Q (F0 m (pc + 1) ls rest)) : W p l e R s m args below meth c H locs cells slots Q (F0 m pc ls (.int x :: .int i :: .ref (B + a) :: rest)) := by
  have hi := hs_in_vp hin
  refine W.zast hexec hb (hs_arrI hP (t := 1) hk (by decide)) ((hK.2 1 _ rfl).1 _ _) (fun q => by cases q) (by rw [arrV_size]; exact hi) rfl rfl hdg fun H1 x1 z oq => ?_
  refine kk H1 _ (hs_P_wr hP z oq rfl rfl rfl (fun b hb => ⟨hs_I_wI_ne hb, rfl⟩) (hs_at_arrI (t := 1) hk (by decide) ?_)) (hS.put z oq (Nat.le_add_right B a))
  rw [x1, arrV_store, hs_01_nar h01]
  congr 2
  funext q
  by_cases hq : q = i.toNatClampNeg
  · subst hq; simp [updV, hs_I_wI]
  · simp [updV, hs_I_wI, hq]
theorem hs_aast (hexec : p.tables.exec = Jvm.exec) (hb : c.code = cc) (hK : va_K D vwCl (hs_ty E) s) (hP : hs_P B D E g H) (hS : hs_Sx B H0 H locs) {t ci v : Nat} {r : vw_C} (hk : hs_kd g a = 100 + t) (h2 : 2 ≤ t) (h4 : t < 4) (hty : (hs_ty E)[t]? = some (E t, .object r.1)) (hv : hs_kd g v = ci) (hci : ci < 100) (hc : vwCl[ci]? = some r) {i : Int32} (hin : hs_in i (hs_ln g a) = true) (hdg : decode cc pc = .ok (.aastore, 1))
    (kk : ∀ (H1 : Heap) (locs1 : List Loc), hs_P B D E (hs_wR g a i.toNatClampNeg v) H1 → hs_Sx B H0 H1 locs1 → W p l e R s m args below meth c H1 locs1 cells slots Q (F0 m (pc + 1) ls rest)) : W p l e R s m args below meth c H locs cells slots Q (F0 m pc ls (.ref (B + v) :: .int i :: .ref (B + a) :: rest)) := by
  have hi := hs_in_vp hin
  have hlt : i.toNatClampNeg < hs_ln g a := Nat.not_le.mp fun q => hi (Or.inr q)
  have h0 : ¬ i < 0 := fun q => hi (Or.inl q)
  obtain ⟨cellV, g1, g2, g3, -⟩ := hs_obj hP hv hci hc
  have hcls := (hK.1 ci r hc).2
  obtain ⟨kA, comp, k1, k2, k3, -⟩ := (hK.2 t _ hty).2
  have hcomp : comp = D.1 ci := Option.some.inj (k3.symm.trans hcls.1)
  subst hcomp
  obtain ⟨kC, hkC, -⟩ := hcls.2
  refine W.aast hexec hb (hs_arrR hP hk h2 h4) (fun q h => by cases h) (fun h => by cases h) k1 k2 rfl hkC ⟨h0, by rw [arrV_size]; exact hlt⟩ g1 (fun q h => by rw [g3] at h; cases h) (by rw [g2]; exact hkC) (by rw [g2]; exact va_assign hcls) rfl rfl hdg fun H1 x1 z oq => ?_
  refine kk H1 _ (hs_P_wr hP z oq rfl rfl rfl (fun b hb => ⟨rfl, hs_R_wR_ne hb⟩) (hs_at_arrR hk h2 ?_)) (hS.put z oq (Nat.le_add_right B a))
  rw [x1, arrV_store]
  congr 2
  funext q
  by_cases hq : q = i.toNatClampNeg
  · subst hq; simp [updV, hs_R_wR, hs_rv]
  · simp [updV, hs_R_wR, hq]
theorem hs_Sx_new {H1 : Heap} {n : Nat} (hS : hs_Sx B H0 H locs) (hz : H.size = n) (z1 : H1.size = n + 1) (o1 : ∀ q : Nat, q < n → H1[q]? = H[q]?) : hs_Sx B H0 H1 locs :=
  ⟨by have := hS.1; omega, fun q h1 h2 => by rw [o1 q (by have := hS.1; omega)]; exact hS.2.1 q h1 h2, hS.2.2⟩
theorem hs_newc (hexec : p.tables.exec = Jvm.exec) (hb : c.code = cc) {own C : String} {T : u_T} {N ci index : Nat} {Ts : List Cond} (hts : ∀ w ∈ Ts, w.before args s = true) (hin : ∀ w ∈ u_ws C T N, w ∈ Ts) (ty : Nat → FieldType) (hty : ∀ k, k < N → parseFieldDescriptor (T k).2.2.1 = some (ty k)) (hown : s.vm.findClass own = some m.cls) (hcl : (Cond.classLink own index C).before args s = true) (hinst : (Cond.instantiable C N).before args s = true) (hini : (Cond.initialized C).before args s = true)
    (hK : va_K D vwCl (hs_ty E) s) (hP : hs_P B D E g H) (hS : hs_Sx B H0 H locs) (hci : ci < 100) (hc : vwCl[ci]? = some (C, T, N)) (hfs : ∀ j, j < N → defaultValue (ty j) = if hs_fr ci j = true then .null else .int 0) (hcells : cells + 1 ≤ R.cells) (hslots : slots + N ≤ R.slots) (hdg : decode cc pc = .ok (.new index, 3))
    (kk : ∀ H1 : Heap, hs_P B D E (hs_new g ci 0) H1 → hs_Sx B H0 H1 locs → W p l e R s m args below meth c H1 locs (cells + 1) (slots + N) Q (F0 m (pc + 3) ls (.ref (B + g.1) :: rest))) : W p l e R s m args below meth c H locs cells slots Q (F0 m pc ls rest) := by
  have hKn := hK.1 ci _ hc
  refine W.newcK hexec hb hown hcl hinst hini rfl hdg hcells hslots hKn.2.1 hP.1 fun H1 kC hkC e1 z1 o1 => ?_
  refine kk H1 (hs_P_new hP z1 o1 ?_) (hs_Sx_new hS hP.1 z1 o1)
  have hk' : hs_kd (hs_new g ci 0) g.1 = ci := by simp [hs_kd, hs_new]
  unfold hs_at
  rw [hk', if_pos hci]
  refine ⟨_, hc, (u_born ty hts hin hKn hkC e1 hty).to (fun j hj => ?_)⟩
  rw [hfs j hj]
  simp [hs_V, hs_R, hs_I, hs_new, hs_rv]
theorem hs_newI (hexec : p.tables.exec = Jvm.exec) (hb : c.code = cc) {atype : ArrayType} {t k : Nat} (h2 : t < 2) (hkk : 100 + t = k) (harr : (Cond.arrayClass (newarray.typeOf atype)).before args s = true) (hty : (hs_ty E)[t]? = some (E t, newarray.typeOf atype)) (hra : ∀ U x, va_RA U x (newarray.typeOf atype) → U.vm.findClass ("[" ++ (newarray.typeOf atype).toString) = some x) (hdef : defaultValue (newarray.typeOf atype) = .int 0) (hK : va_K D vwCl (hs_ty E) s) (hP : hs_P B D E g H) (hS : hs_Sx B H0 H locs)
    {n : Int32} {N : Nat} (hn : ¬ n < 0) (hN : n.toNatClampNeg = N) (hbytes : N * componentBytes (newarray.typeOf atype) ≤ 536870912) (hcells : cells + 1 ≤ R.cells) (hslots : slots + N ≤ R.slots) (hdg : decode cc pc = .ok (.newarray atype, 2))
    (kk : ∀ H1 : Heap, hs_P B D E (hs_new g k N) H1 → hs_Sx B H0 H1 locs → W p l e R s m args below meth c H1 locs (cells + 1) (slots + N) Q (F0 m (pc + 2) ls (.ref (B + g.1) :: rest))) : W p l e R s m args below meth c H locs cells slots Q (F0 m pc ls (.int n :: rest)) := by
  subst hkk
  refine va_newaK hexec hb harr rfl hdg rfl hn hN hbytes hcells hslots hP.1 fun H1 cA e1 z1 o1 hAr hNm => ?_
  have hcA : cA = E t := Option.some.inj (hNm.symm.trans (hra _ _ (hK.2 t _ hty).2))
  subst hcA
  refine kk H1 (hs_P_new hP z1 o1 (hs_at_arrI (t := t) (by simp [hs_kd, hs_new]) h2 ?_)) (hs_Sx_new hS hP.1 z1 o1)
  rw [e1, hdef]
  simp [hs_ln, hs_I, hs_new]
theorem hs_newR (hexec : p.tables.exec = Jvm.exec) (hb : c.code = cc) {own C : String} {index t k : Nat} (h2 : 2 ≤ t) (hkk : 100 + t = k) (hown : s.vm.findClass own = some m.cls) (hclink : (Cond.classLink own index C).before args s = true) (hover : (Cond.arrayOver (.object C)).before args s = true) (hty : (hs_ty E)[t]? = some (E t, .object C)) (hK : va_K D vwCl (hs_ty E) s) (hP : hs_P B D E g H) (hS : hs_Sx B H0 H locs)
    {n : Int32} {N : Nat} (hn : ¬ n < 0) (hN : n.toNatClampNeg = N) (hbytes : N * 4 ≤ 536870912) (hcells : cells + 1 ≤ R.cells) (hslots : slots + N ≤ R.slots) (hdg : decode cc pc = .ok (.anewarray index, 3))
    (kk : ∀ H1 : Heap, hs_P B D E (hs_new g k N) H1 → hs_Sx B H0 H1 locs → W p l e R s m args below meth c H1 locs (cells + 1) (slots + N) Q (F0 m (pc + 3) ls (.ref (B + g.1) :: rest))) : W p l e R s m args below meth c H locs cells slots Q (F0 m pc ls (.int n :: rest)) := by
  subst hN
  subst hkk
  refine W.anew hexec hb hown hclink hover rfl hdg rfl hn hbytes hcells hslots fun cA kA comp f1 f2 f3 f4 => ?_
  obtain ⟨kA', comp', k1, k2, k3, k4⟩ := (hK.2 t _ hty).2
  have hcA : cA = E t := Option.some.inj (f1.symm.trans k4)
  subst hcA
  have hz : H.size = B + g.1 := hP.1
  generalize hH1 : H.push ({ cls := E t, slots := Array.replicate n.toNatClampNeg .null, vm := .none } : Cell) = H1
  have z1 : H1.size = B + g.1 + 1 := by rw [← hH1, Array.size_push, hz]
  have e1 : H1[B + g.1]? = some (arrV (E t) n.toNatClampNeg (fun _ => .null)) := by rw [← hz, ← hH1, Array.getElem?_push_size, ← arrV_new]
  have o1 : ∀ q : Nat, q < B + g.1 → H1[q]? = H[q]? := fun q hq => by rw [← hH1, Array.getElem?_push, if_neg (by omega)]
  have hgo := kk H1 (hs_P_new hP z1 o1 (hs_at_arrR (t := t) (by simp [hs_kd, hs_new]) h2 (by rw [e1]; simp [hs_ln, hs_R, hs_new, hs_rv]))) (hs_Sx_new hS hP.1 z1 o1)
  rw [← hz] at hgo
  exact hgo
end HSR
/-! A contract's start and end in these words -/
def hs_Pc (B : Nat) (D : va_G) (E : Nat → ClassId) (g : hs_S) (av : List Value) : Array Value → State → Prop := va_Pc av (fun U => hs_P B D E g U.heap ∧ hs_K D E U)
def hs_Qi (B : Nat) (D : va_G) (E : Nat → ClassId) (o : Int32 × hs_S) : Array Value → State → Outcome → State → Prop := va_Qi (fun r (u : hs_S) => r = o.1 ∧ u = o.2) (fun u t => hs_P B D E u t.heap ∧ hs_K D E t) (fun q : Nat => B ≤ q)
def hs_Qv (B : Nat) (D : va_G) (E : Nat → ClassId) (o : hs_S) : Array Value → State → Outcome → State → Prop := va_Qv (fun (u : hs_S) => u = o) (fun u t => hs_P B D E u t.heap ∧ hs_K D E t) (fun q : Nat => B ≤ q)
def hs_Qr (B : Nat) (D : va_G) (E : Nat → ClassId) (o : Nat × hs_S) : Array Value → State → Outcome → State → Prop := va_Qr (fun (u : hs_S) => u = o.2) (fun u a t => a = B + o.1 ∧ hs_P B D E u t.heap ∧ hs_K D E t) (fun q : Nat => B ≤ q)
/-- what a method may write: cells at or above B -/
def hs_F (B : Nat) : Nat → Prop := fun q => B ≤ q
theorem hs_blind {B : Nat} {D : va_G} {E : Nat → ClassId} {g : hs_S} {av : List Value} : FrameBlind (hs_Pc B D E g av) := fun a U f mk q => ⟨q.1, q.2.1, hs_K.same (s := U) (U := U.calling f mk a) rfl q.2.2⟩
theorem hs_pre {B : Nat} {D : va_G} {E : Nat → ClassId} {g : hs_S} {av : List Value} {s : State} {H : Heap} (hP : hs_P B D E g H) (hK : hs_K D E s) : PreS s H (hs_Pc B D E g av) av :=
  ⟨hs_blind, fun U hU hW => ⟨rfl, by rw [hU]; exact hP, hs_K.warm hW hK⟩⟩
theorem hs_preV {B : Nat} {D : va_G} {E : Nat → ClassId} {g : hs_S} {As : List Value} {s : State} {H : Heap} {a ci : Nat} {r : vw_C} (hP : hs_P B D E g H) (hK : hs_K D E s) (hk : hs_kd g a = ci) (hci : ci < 100) (hc : vwCl[ci]? = some r) : PreV s H r.1 (B + a) (hs_Pc B D E g (.ref (B + a) :: As)) As := by
  refine ⟨hs_blind, ?_, fun U hU hW => ⟨rfl, by rw [hU]; exact hP, hs_K.warm hW hK⟩⟩
  obtain ⟨cell, g1, g2, g3, -⟩ := hs_obj hP hk hci hc
  exact ⟨cell, g1, by rw [g3]; rfl, by rw [g2]; exact (hK.1.1 ci r hc).2.1⟩
section HSC
variable {p : Program} {l : Launch} {e : Env} {R : Room} {s : State} {m : MethodId} {args : Array Value} {below : List Frame} {meth : Method} {c : Code} {H : Heap} {locs : List Loc} {cells slots : Nat} {Q : State → Prop}
variable {pc : Nat} {ls : Array Slot} {rest st0 : List Value} {a : Array Value} {H0 : Heap} {mc ms B : Nat} {D : va_G} {E : Nat → ClassId}
theorem hs_calli {o : Int32 × hs_S} (hr : va_Run p l e R s m args below meth c H locs cells slots mc ms (F0 m pc ls st0) rest (hs_Qi B D E o a) (hs_F B)) (hS : hs_Sx B H0 H locs)
    (kk : ∀ (H1 : Heap) (locs1 : List Loc), hs_P B D E o.2 H1 → hs_Sx B H0 H1 locs1 → W p l e R s m args below meth c H1 locs1 (cells + mc) (slots + ms) Q (F0 m (pc + 3) ls (.int o.1 :: rest))) : W p l e R s m args below meth c H locs cells slots Q (F0 m pc ls st0) :=
  va_calli hr hS (fun _ _ h => h) (fun _ h => h) (fun r u t H1 locs1 ht _ hw hB _ _ hS1 => by
    obtain ⟨rfl, rfl⟩ := hw
    exact kk H1 locs1 (ht ▸ hB.1) hS1)
theorem hs_callv {o : hs_S} (hr : va_Run p l e R s m args below meth c H locs cells slots mc ms (F0 m pc ls st0) rest (hs_Qv B D E o a) (hs_F B)) (hS : hs_Sx B H0 H locs)
    (kk : ∀ (H1 : Heap) (locs1 : List Loc), hs_P B D E o H1 → hs_Sx B H0 H1 locs1 → W p l e R s m args below meth c H1 locs1 (cells + mc) (slots + ms) Q (F0 m (pc + 3) ls rest)) : W p l e R s m args below meth c H locs cells slots Q (F0 m pc ls st0) :=
  va_callv hr hS (fun _ _ h => h) (fun _ h => h) (fun u t H1 locs1 ht _ hw hB _ _ hS1 => by
    subst hw
    exact kk H1 locs1 (ht ▸ hB.1) hS1)
theorem hs_callr {o : Nat × hs_S} (hr : va_Run p l e R s m args below meth c H locs cells slots mc ms (F0 m pc ls st0) rest (hs_Qr B D E o a) (hs_F B)) (hS : hs_Sx B H0 H locs)
    (kk : ∀ (H1 : Heap) (locs1 : List Loc), hs_P B D E o.2 H1 → hs_Sx B H0 H1 locs1 → W p l e R s m args below meth c H1 locs1 (cells + mc) (slots + ms) Q (F0 m (pc + 3) ls (.ref (B + o.1) :: rest))) : W p l e R s m args below meth c H locs cells slots Q (F0 m pc ls st0) :=
  va_callr hr hS (fun _ _ h => h) (fun _ h => h) (fun u ra t H1 locs1 ht _ hw hB _ _ hS1 => by
    subst hw
    obtain ⟨rfl, hB, -⟩ := hB
    exact kk H1 locs1 (ht ▸ hB) hS1)
end HSC
section HSE
variable {p : Program} {l : Launch} {e : Env} {R : Room} {s : State} {m : MethodId} {args : Array Value} {below : List Frame} {meth : Method} {c : Code} {H : Heap} {locs : List Loc} {cells slots : Nat}
variable {cc : ByteArray} {pc : Nat} {ls : Array Slot} {B : Nat} {D : va_G} {E : Nat → ClassId} {g : hs_S}
theorem hs_iret {x : Int32} {ty : FieldType} {o : Int32 × hs_S} (hexec : p.tables.exec = Jvm.exec) (hb : c.code = cc) (hr : meth.sig.returnType = some ty) (hlocks : meth.locks = false) (hn : narrow ty (.int x) = .int x) (hK : hs_K D E s) (hP : hs_P B D E g H) (hS : hs_Sx B s.heap H locs) (ho : some (x, g) = some o) (hdg : decode cc pc = .ok (.ireturn, 1)) :
    W p l e R s m args below meth c H locs cells slots (MQ below (hs_Qi B D E o) args s cells slots (hs_F B)) (F0 m pc ls [.int x]) := by
  cases ho
  exact W.zret hexec hb hr hn (fun t ht hW => ⟨⟨_, _, rfl, ⟨rfl, rfl⟩, by rw [ht]; exact hP, hs_K.warm hW hK⟩, hS.F ht⟩) hS.2.2 hdg hlocks
theorem hs_vret {o : hs_S} (hexec : p.tables.exec = Jvm.exec) (hb : c.code = cc) (hr : meth.sig.returnType = none) (hlocks : meth.locks = false) (hK : hs_K D E s) (hP : hs_P B D E g H) (hS : hs_Sx B s.heap H locs) (ho : some g = some o) (hdg : decode cc pc = .ok (.return_, 1)) :
    W p l e R s m args below meth c H locs cells slots (MQ below (hs_Qv B D E o) args s cells slots (hs_F B)) (F0 m pc ls []) := by
  cases ho
  exact W.vret hexec hb hr (fun t ht hW => ⟨⟨_, rfl, rfl, by rw [ht]; exact hP, hs_K.warm hW hK⟩, hS.F ht⟩) hS.2.2 hdg hlocks
theorem hs_aret {x : Nat} {rt : FieldType} {o : Nat × hs_S} (hexec : p.tables.exec = Jvm.exec) (hb : c.code = cc) (hr : meth.sig.returnType = some rt) (hrt : (∃ n, rt = .object n) ∨ ∃ t, rt = .array t) (hlocks : meth.locks = false) (hK : hs_K D E s) (hP : hs_P B D E g H) (hS : hs_Sx B s.heap H locs) (ho : some (x, g) = some o) (hdg : decode cc pc = .ok (.areturn, 1)) :
    W p l e R s m args below meth c H locs cells slots (MQ below (hs_Qr B D E o) args s cells slots (hs_F B)) (F0 m pc ls [.ref (B + x)]) := by
  cases ho
  exact W.aret hexec hb hr hrt (Or.inr ⟨_, rfl⟩) (fun t ht hW => ⟨⟨_, _, rfl, rfl, rfl, by rw [ht]; exact hP, hs_K.warm hW hK⟩, hS.F ht⟩) hS.2.2 hdg hlocks
/-- what a method's walk stands on, all through -/
def hs_cx (cc : ByteArray) (ret : Option FieldType) (nL : Nat) (own : String) (ws : List Cond) (p : Program) (s : State) (m : MethodId) (args : Array Value) (meth : Method) (c : Code) (D : va_G) (E : Nat → ClassId) : Prop :=
  p.tables.exec = Jvm.exec ∧ c.code = cc ∧ meth.sig.returnType = ret ∧ c.maxLocals = nL ∧ s.vm.findClass own = some m.cls ∧ (∀ w ∈ ws, w.before args s = true) ∧ meth.locks = false ∧ hs_K D E s
end HSE
theorem hs_dfX0 : ∀ j, j < 5 → defaultValue (tyX0 j) = if hs_fr 0 j = true then .null else .int 0 := by decide +kernel
theorem hs_dfX1 : ∀ j, j < 3 → defaultValue (tyX1 j) = if hs_fr 1 j = true then .null else .int 0 := by decide +kernel
theorem hs_dfX2 : ∀ j, j < 1 → defaultValue (tyX2 j) = if hs_fr 2 j = true then .null else .int 0 := by decide +kernel
theorem hs_dfX3 : ∀ j, j < 5 → defaultValue (tyX3 j) = if hs_fr 3 j = true then .null else .int 0 := by decide +kernel
theorem hs_dfX5 : ∀ j, j < 5 → defaultValue (tyX5 j) = if hs_fr 4 j = true then .null else .int 0 := by decide +kernel
theorem hs_dfX6 : ∀ j, j < 8 → defaultValue (tyX6 j) = if hs_fr 5 j = true then .null else .int 0 := by decide +kernel
theorem hs_dfX7 : ∀ j, j < 11 → defaultValue (tyX7 j) = if hs_fr 6 j = true then .null else .int 0 := by decide +kernel
theorem hs_dfX8 : ∀ j, j < 1 → defaultValue (tyX8 j) = if hs_fr 7 j = true then .null else .int 0 := by decide +kernel
theorem hs_dfX10 : ∀ j, j < 2 → defaultValue (tyX10 j) = if hs_fr 8 j = true then .null else .int 0 := by decide +kernel
theorem hs_dfX11 : ∀ j, j < 8 → defaultValue (tyX11 j) = if hs_fr 9 j = true then .null else .int 0 := by decide +kernel
theorem hs_dfX12 : ∀ j, j < 48 → defaultValue (tyX12 j) = if hs_fr 10 j = true then .null else .int 0 := by decide +kernel
