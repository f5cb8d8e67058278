/-! TOTALITY WITH A POSTCONDITION, by the shape of the function -/
def Tq {σ : Type} (x : Option σ) (P : σ → Prop) : Prop := ∃ s, x = some s ∧ P s
theorem Tq.some {σ : Type} {s : σ} {P : σ → Prop} (h : P s) : Tq (some s) P := ⟨s, rfl, h⟩
theorem Tq.mono {σ : Type} {x : Option σ} {P Q : σ → Prop} (h : Tq x P) (hPQ : ∀ s, P s → Q s) : Tq x Q := by
  obtain ⟨s, e, p⟩ := h
  exact ⟨s, e, hPQ s p⟩
theorem Tq.br {σ : Type} {c : Prop} {i : Decidable c} {x y : Option σ} {P : σ → Prop} (h1 : c → Tq x P) (h2 : ¬ c → Tq y P) : Tq (@ite _ c i x y) P := by
  by_cases h : c
  · rw [if_pos h]; exact h1 h
  · rw [if_neg h]; exact h2 h
theorem Tq.ck {σ : Type} {c : Prop} {i : Decidable c} {x : Option σ} {P : σ → Prop} (h : c) (h1 : Tq x P) : Tq (@ite _ c i x none) P := by rw [if_pos h]; exact h1
theorem Tq.bd {α σ β : Type} {x : Option (α × σ)} {f : α → σ → Option β} {P : β → Prop} (h : Tq x (fun q => Tq (f q.1 q.2) P)) : Tq (hm_bd x f) P := by
  obtain ⟨q, e, p⟩ := h
  rw [e]; exact p
theorem Tq.bv {σ β : Type} {x : Option σ} {f : σ → Option β} {P : β → Prop} (h : Tq x (fun q => Tq (f q) P)) : Tq (hm_bv x f) P := by
  obtain ⟨q, e, p⟩ := h
  rw [e]; exact p
theorem Tq.b3 {α0 α1 σ β : Type} {x : Option (α0 × α1 × σ)} {f : α0 → α1 → σ → Option β} {P : β → Prop} (h : Tq x (fun q => Tq (f q.1 q.2.1 q.2.2) P)) : Tq (hm_b3 x f) P := by
  obtain ⟨q, e, p⟩ := h
  rw [e]; exact p
theorem Tq.b4 {α0 α1 α2 σ β : Type} {x : Option (α0 × α1 × α2 × σ)} {f : α0 → α1 → α2 → σ → Option β} {P : β → Prop} (h : Tq x (fun q => Tq (f q.1 q.2.1 q.2.2.1 q.2.2.2) P)) : Tq (hm_b4 x f) P := by
  obtain ⟨q, e, p⟩ := h
  rw [e]; exact p
/-- by an equation, then on -/
theorem Tq.bde {α σ β : Type} {x : Option (α × σ)} {r : α} {g : σ} {f : α → σ → Option β} {P : β → Prop} (e : x = Option.some (r, g)) (h : Tq (f r g) P) : Tq (hm_bd x f) P := by
  rw [e]; exact h
theorem Tq.bve {σ β : Type} {x : Option σ} {g : σ} {f : σ → Option β} {P : β → Prop} (e : x = Option.some g) (h : Tq (f g) P) : Tq (hm_bv x f) P := by
  rw [e]; exact h
theorem Tq.b3e {α0 α1 σ β : Type} {x : Option (α0 × α1 × σ)} {a : α0} {b : α1} {g : σ} {f : α0 → α1 → σ → Option β} {P : β → Prop} (e : x = Option.some (a, b, g)) (h : Tq (f a b g) P) : Tq (hm_b3 x f) P := by
  rw [e]; exact h
/-! rows and frames -/
theorem hm_w_ne {g : hm} {a j b : Nat} {v : Int32} (h : b ≠ a) : hm_w g a j v b = g b := by funext i; simp [hm_w, h]
theorem hm_w_at (g : hm) (a j : Nat) (v : Int32) (i : Nat) : hm_w g a j v a i = if i = j then v else g a i := by simp [hm_w]
theorem hm_w_eq (g : hm) (a j : Nat) (v : Int32) : hm_w g a j v a j = v := by simp [hm_w]
theorem hm_w_o {g : hm} {a j i : Nat} {v : Int32} (h : i ≠ j) : hm_w g a j v a i = g a i := by simp [hm_w, h]
/-- rows outside A are as they were -/
def Fr (A : List Nat) (g g' : hm) : Prop := ∀ a, a ∉ A → g' a = g a
theorem Fr.rf {A : List Nat} {g : hm} : Fr A g g := fun _ _ => rfl
theorem Fr.trans {A : List Nat} {g g' g'' : hm} (h : Fr A g g') (h' : Fr A g' g'') : Fr A g g'' := fun a ha => (h' a ha).trans (h a ha)
theorem Fr.mono {A B : List Nat} {g g' : hm} (h : Fr A g g') (hs : ∀ a ∈ A, a ∈ B) : Fr B g g' := fun a ha => h a (fun q => ha (hs a q))
theorem Fr.w {A : List Nat} {g g' : hm} (h : Fr A g g') {a j : Nat} {v : Int32} (ha : a ∈ A) : Fr A g (hm_w g' a j v) := fun b hb => (hm_w_ne (b := b) (a := a) (fun e => hb (by rw [e]; exact ha))).trans (h b hb)
/-- fields of the object outside S are as they were -/
def Fo (S : List Nat) (g g' : hm) : Prop := ∀ j, j ∉ S → g' 285 j = g 285 j
theorem Fo.rf {S : List Nat} {g : hm} : Fo S g g := fun _ _ => rfl
theorem Fo.trans {S : List Nat} {g g' g'' : hm} (h : Fo S g g') (h' : Fo S g' g'') : Fo S g g'' := fun a ha => (h' a ha).trans (h a ha)
theorem Fo.of {S : List Nat} {A : List Nat} {g g' : hm} (h : Fr A g g') (h285 : 285 ∉ A) : Fo S g g' := fun j _ => by rw [h 285 h285]
theorem Fo.w {S : List Nat} {g g' : hm} (h : Fo S g g') {j : Nat} {v : Int32} (hj : j ∈ S) : Fo S g (hm_w g' 285 j v) := fun i hi => (hm_w_o (i := i) (j := j) (fun e => hi (by rw [e]; exact hj))).trans (h i hi)
theorem Fo.wa {S : List Nat} {g g' : hm} (h : Fo S g g') {a j : Nat} {v : Int32} (ha : 285 ≠ a) : Fo S g (hm_w g' a j v) := fun i hi => by rw [hm_w_ne ha]; exact h i hi
/-! ints -/
theorem ix (a m k : Nat) : nI a * nI m + nI k = nI (a * m + k) := by rw [pk_mul, nI_add]
theorem hin {j n : Nat} (h : j < n) (hj : n ≤ 2147483648) : hs_in (nI j) n = true := by
  simp only [hs_in, Bool.and_eq_true, Bool.not_eq_true', decide_eq_false_iff_not, decide_eq_true_eq]
  exact ⟨nI_pos (by omega), by rw [nI_clamp (by omega)]; exact h⟩
theorem cl {j : Nat} (h : j < 2147483648) : (nI j).toNatClampNeg = j := nI_clamp (by omega)
theorem lei {a b : Nat} (ha : a < 2147483648) (hb : b < 2147483648) : nI a ≤ nI b ↔ a ≤ b := nI_leI (by omega) (by omega)
theorem lti {a b : Nat} (ha : a < 2147483648) (hb : b < 2147483648) : nI a < nI b ↔ a < b := nI_ltI (by omega) (by omega)
theorem eqi {a b : Nat} (ha : a < 2147483648) (hb : b < 2147483648) : nI a = nI b ↔ a = b := nI_eq (by omega) (by omega)
def zI (z : Int) : Int32 := Int32.ofInt z
theorem zI_n (n : Nat) : zI (n : Int) = nI n := by
  unfold zI nI
  exact Int32.ofInt_eq_ofNat
theorem zI_add (a b : Int) : zI a + zI b = zI (a + b) := (Int32.ofInt_add a b).symm
theorem zI_sub (a b : Int) : zI a - zI b = zI (a - b) := (Int32.ofInt_sub a b).symm
theorem zI_toInt {z : Int} (h1 : -2147483648 ≤ z) (h2 : z < 2147483648) : (zI z).toInt = z := Int32.toInt_ofInt_of_le (by simpa using h1) (by simpa using h2)
theorem zI_neg {z : Int} (h1 : -2147483648 ≤ z) (h2 : z < 2147483648) : zI z < 0 ↔ z < 0 := by
  rw [Int32.lt_iff_toInt_lt, zI_toInt h1 h2, Int32.toInt_zero]
theorem zI_le {a b : Int} (h1 : -2147483648 ≤ a) (h2 : a < 2147483648) (h3 : -2147483648 ≤ b) (h4 : b < 2147483648) : zI a ≤ zI b ↔ a ≤ b := by
  rw [Int32.le_iff_toInt_le, zI_toInt h1 h2, zI_toInt h3 h4]
theorem zI_lt {a b : Int} (h1 : -2147483648 ≤ a) (h2 : a < 2147483648) (h3 : -2147483648 ≤ b) (h4 : b < 2147483648) : zI a < zI b ↔ a < b := by
  rw [Int32.lt_iff_toInt_lt, zI_toInt h1 h2, zI_toInt h3 h4]
theorem zI_eq {a b : Int} (h1 : -2147483648 ≤ a) (h2 : a < 2147483648) (h3 : -2147483648 ≤ b) (h4 : b < 2147483648) : zI a = zI b ↔ a = b := by
  constructor
  · intro h
    have := congrArg Int32.toInt h
    rwa [zI_toInt h1 h2, zI_toInt h3 h4] at this
  · rintro rfl; rfl
/-! WHAT AN INSTRUCTION IS, by its first byte -/
def s_sz (k : Nat) : Nat := if k = 17 ∨ k = 168 then 3 else if k = 202 then 5 else if k = 16 ∨ k = 21 ∨ k = 54 ∨ (153 ≤ k ∧ k ≤ 158) ∨ k = 167 ∨ k = 184 ∨ k = 188 ∨ k = 190 ∨ k = 46 ∨ k = 79 then 2
  else if k = 0 ∨ k = 87 ∨ k = 89 ∨ k = 96 ∨ k = 100 ∨ k = 104 ∨ k = 108 ∨ k = 112 ∨ k = 116 ∨ k = 126 ∨ k = 128 ∨ k = 130 ∨ k = 172 ∨ k = 191 ∨ k = 203 then 1 else 0
def s_isK (k : Nat) : Bool := decide (0 < s_sz k) && !(decide (k = 202)) && !(decide (k = 203))
def s_isJ (k : Nat) : Bool := (decide (153 ≤ k) && decide (k ≤ 158)) || decide (k = 167) || decide (k = 168)
def s_tk (k : Nat) : Nat := if k = 54 ∨ k = 87 ∨ k = 89 ∨ k = 116 ∨ k = 172 ∨ k = 188 ∨ k = 46 ∨ (153 ≤ k ∧ k ≤ 158) then 1 else if k = 79 ∨ k = 96 ∨ k = 100 ∨ k = 104 ∨ k = 108 ∨ k = 112 ∨ k = 126 ∨ k = 128 ∨ k = 130 then 2 else 0
def s_gv (k : Nat) : Nat := if k = 89 then 2 else if k = 0 ∨ k = 54 ∨ k = 87 ∨ k = 172 ∨ k = 188 ∨ k = 79 ∨ k = 191 ∨ s_isJ k = true then 0 else 1
def s_bI (b : Bool) : Int32 := if b = true then 1 else 0
def hm_0 : hm := fun _ _ => 0
theorem qi_ite {c : Prop} {i : Decidable c} {A B A' B' : Option (Int32 × hm)} {g : hm} (hA : A = some ((A'.getD (0, hm_0)).1, g)) (hB : B = some ((B'.getD (0, hm_0)).1, g)) : @ite _ c i A B = some (((@ite _ c i A' B').getD (0, hm_0)).1, g) := by
  by_cases h : c
  · rw [if_pos h, if_pos h]; exact hA
  · rw [if_neg h, if_neg h]; exact hB
theorem hm_bd_s {α σ β : Type} (r : α) (g : σ) (f : α → σ → Option β) : hm_bd (some (r, g)) f = f r g := rfl
theorem qz_size (v : Int32) (g : hm) : nX12_size v g = some (((nX12_size v hm_0).getD (0, hm_0)).1, g) := by
  unfold nX12_size njX12_size_56 njX12_size_191
  repeat' (first | apply qi_ite | rfl)
theorem qz_isJump (v : Int32) (g : hm) : nX12_isJump v g = some (((nX12_isJump v hm_0).getD (0, hm_0)).1, g) := by
  unfold nX12_isJump
  repeat' (first | apply qi_ite | rfl)
theorem hm_w_285 {g : hm} {a j i : Nat} {v : Int32} (h : 285 ≠ a) : hm_w g a j v 285 i = g 285 i := by rw [hm_w_ne h]
set_option maxRecDepth 100000 in
theorem qk_size : (List.range 256).all (fun k => decide (((nX12_size (nI k) hm_0).getD (0, hm_0)).1 = nI (s_sz k))) = true := by decide +kernel
theorem q_size {k : Nat} (h : k < 256) (g : hm) : nX12_size (nI k) g = some (nI (s_sz k), g) := by
  rw [qz_size, of_decide_eq_true (List.all_eq_true.mp qk_size k (List.mem_range.mpr h))]
set_option maxRecDepth 100000 in
theorem qk_isJump : (List.range 256).all (fun k => decide (((nX12_isJump (nI k) hm_0).getD (0, hm_0)).1 = s_bI (s_isJ k))) = true := by decide +kernel
theorem q_isJump {k : Nat} (h : k < 256) (g : hm) : nX12_isJump (nI k) g = some (s_bI (s_isJ k), g) := by
  rw [qz_isJump, of_decide_eq_true (List.all_eq_true.mp qk_isJump k (List.mem_range.mpr h))]
theorem qz_isKind (v : Int32) (g : hm) : nX12_isKind v g = some (((nX12_isKind v hm_0).getD (0, hm_0)).1, g) := by
  unfold nX12_isKind
  rw [qz_size v g, hm_bd_s, qz_size v hm_0, hm_bd_s]
  repeat' (first | apply qi_ite | rfl)
set_option maxRecDepth 100000 in
theorem qk_isKind : (List.range 256).all (fun k => decide (((nX12_isKind (nI k) hm_0).getD (0, hm_0)).1 = s_bI (s_isK k))) = true := by decide +kernel
theorem q_isKind {k : Nat} (h : k < 256) (g : hm) : nX12_isKind (nI k) g = some (s_bI (s_isK k), g) := by
  rw [qz_isKind, of_decide_eq_true (List.all_eq_true.mp qk_isKind k (List.mem_range.mpr h))]
theorem qz_gives (v : Int32) (g : hm) : nX12_gives v g = some (((nX12_gives v hm_0).getD (0, hm_0)).1, g) := by
  unfold nX12_gives njX12_gives_58
  rw [qz_isJump v g, qz_isJump v hm_0]
  repeat' (first | apply qi_ite | rfl)
set_option maxRecDepth 100000 in
theorem qk_gives : (List.range 256).all (fun k => decide (((nX12_gives (nI k) hm_0).getD (0, hm_0)).1 = nI (s_gv k))) = true := by decide +kernel
theorem q_gives {k : Nat} (h : k < 256) (g : hm) : nX12_gives (nI k) g = some (nI (s_gv k), g) := by
  rw [qz_gives, of_decide_eq_true (List.all_eq_true.mp qk_gives k (List.mem_range.mpr h))]
/-- takes, but for a call -/
theorem qz_takes {v : Int32} (hv : ¬ v = 184) (a : Int32) (g : hm) : nX12_takes v a g = some (((nX12_takes v 0 hm_0).getD (0, hm_0)).1, g) := by
  unfold nX12_takes njX12_takes_74 njX12_takes_130
  rw [if_neg hv, if_neg hv]
  repeat' (first | apply qi_ite | rfl)
set_option maxRecDepth 100000 in
theorem qk_takes : (List.range 256).all (fun k => decide (k = 184) || decide (((nX12_takes (nI k) 0 hm_0).getD (0, hm_0)).1 = nI (s_tk k))) = true := by decide +kernel
theorem q_takes {k : Nat} (h : k < 256) (hk : k ≠ 184) (a : Int32) (g : hm) : nX12_takes (nI k) a g = some (nI (s_tk k), g) := by
  have := List.all_eq_true.mp qk_takes k (List.mem_range.mpr h)
  simp only [Bool.or_eq_true, decide_eq_true_eq] at this
  have c1 : ¬ nI k = (184 : Int32) := fun q => hk ((eqi (a := k) (b := 184) (by omega) (by decide)).mp q)
  rw [qz_takes c1, this.resolve_left hk]
theorem q_takesC {a : Nat} (h : a < 8) (g : hm) : nX12_takes (nI 184) (nI a) g = some (g 297 a, g) := by
  unfold nX12_takes
  have c1 : nI 184 = (184 : Int32) := rfl
  rw [if_pos c1, if_pos (hin h (by decide)), cl (by omega)]
def s_s8 (a : Nat) : Int := if 127 < a then (a : Int) - 256 else a
def s_s16 (a : Nat) : Int := if 32767 < a then (a : Int) - 65536 else a
def s_tg (k p a b : Nat) : Int := if k = 168 then (p : Int) + s_s16 (256 * a + b) else (p : Int) + s_s8 a
theorem q_signed {a : Nat} (h : a < 256) (g : hm) : nX12_signed (nI a) g = some (zI (s_s8 a), g) := by
  unfold nX12_signed s_s8
  by_cases c : 127 < a
  · have c1 : ¬ nI a ≤ (127 : Int32) := fun q => absurd ((lei (a := a) (b := 127) (by omega) (by decide)).mp q) (by omega)
    rw [if_neg c1, if_pos c, ← zI_sub, zI_n]; rfl
  · have c1 : nI a ≤ (127 : Int32) := (lei (a := a) (b := 127) (by omega) (by decide)).mpr (by omega)
    rw [if_pos c1, if_neg c, zI_n]
theorem q_signedTwo {a : Nat} (h : a < 65536) (g : hm) : nX12_signedTwo (nI a) g = some (zI (s_s16 a), g) := by
  unfold nX12_signedTwo s_s16
  by_cases c : 32767 < a
  · have c1 : ¬ nI a ≤ (32767 : Int32) := fun q => absurd ((lei (a := a) (b := 32767) (by omega) (by decide)).mp q) (by omega)
    rw [if_neg c1, if_pos c, ← zI_sub, zI_n]; rfl
  · have c1 : nI a ≤ (32767 : Int32) := (lei (a := a) (b := 32767) (by omega) (by decide)).mpr (by omega)
    rw [if_pos c1, if_neg c, zI_n]
theorem q_target {k p a b : Nat} (hk : k < 256) (ha : a < 256) (hb : b < 256) (g : hm) : nX12_target (nI k) (nI p) (nI a) (nI b) g = some (zI (s_tg k p a b), g) := by
  unfold nX12_target s_tg
  by_cases c : k = 168
  · have c1 : nI k = (168 : Int32) := by rw [c]; rfl
    have c2 : ((256 : Int32) * nI a + nI b) = nI (256 * a + b) := ix 256 a b
    rw [if_pos c1, if_pos c, c2, q_signedTwo (by omega), hm_bd_s, ← zI_n, zI_add]
  · have c1 : ¬ nI k = (168 : Int32) := fun q => c ((eqi (a := k) (b := 168) (by omega) (by decide)).mp q)
    rw [if_neg c1, if_neg c, q_signed ha, hm_bd_s, ← zI_n, zI_add]
/-- of a jump of two bytes the third is not asked -/
theorem q_target2 {k p a : Nat} (hk : k < 256) (h168 : k ≠ 168) (ha : a < 256) (b : Int32) (g : hm) : nX12_target (nI k) (nI p) (nI a) b g = some (zI (s_tg k p a 0), g) := by
  unfold nX12_target s_tg
  have c1 : ¬ nI k = (168 : Int32) := fun q => h168 ((eqi (a := k) (b := 168) (by omega) (by decide)).mp q)
  rw [if_neg c1, if_neg h168, q_signed ha, hm_bd_s, ← zI_n, zI_add]
