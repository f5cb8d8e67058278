def hc_kl : List Nat := [9, 0, 102, 6, 100, 100, 100, 6, 100, 6, 100, 6, 100, 6, 100, 6, 100, 6, 100, 6, 100, 6, 100, 0, 102, 6, 100, 100, 100, 6, 100, 6, 100, 6, 100, 6, 100, 6, 100, 6, 100, 6, 100, 6, 100, 0, 102, 6, 100, 100, 100, 6, 100, 6, 100, 6, 100, 6, 100, 6, 100, 6, 100, 6, 100, 6, 100, 0, 102, 6, 100, 100, 100, 6, 100, 6, 100, 6, 100, 6, 100, 6, 100, 6, 100, 6, 100, 6, 100, 7, 100, 2, 1, 100, 100, 4, 100, 100, 100, 100, 5, 103, 8, 100, 100, 3, 100, 100, 3, 100, 100, 3, 100, 100, 3, 100, 100, 3, 100, 100, 3, 100, 100, 3, 100, 100, 3, 100, 100, 3, 100, 100, 3, 100, 100, 3, 100, 100, 3, 100, 100, 3, 100, 100, 3, 100, 100, 3, 100, 100, 3, 100, 100, 3, 100, 100, 3, 100, 100, 3, 100, 100, 3, 100, 100, 3, 100, 100, 3, 100, 100, 3, 100, 100, 3, 100, 100, 3, 100, 100, 3, 100, 100, 3, 100, 100, 3, 100, 100, 3, 100, 100, 3, 100, 100, 3, 100, 100, 3, 100, 100, 3, 100, 100, 3, 100, 100, 3, 100, 100, 3, 100, 100, 3, 100, 100, 3, 100, 100, 3, 100, 100, 3, 100, 100, 3, 100, 100, 3, 100, 100, 3, 100, 100, 3, 100, 100, 3, 100, 100, 3, 100, 100, 3, 100, 100, 3, 100, 100, 3, 100, 100, 3, 100, 100, 3, 100, 100, 3, 100, 100, 3, 100, 100, 3, 100, 100, 3, 100, 100, 3, 100, 100, 3, 100, 100, 3, 100, 100, 3, 100, 100, 3, 100, 100]
def hc_nl : List Nat := [0, 0, 8, 0, 0, 32, 6000, 0, 32, 0, 32, 0, 32, 0, 32, 0, 32, 0, 32, 0, 32, 0, 32, 0, 8, 0, 0, 32, 6000, 0, 32, 0, 32, 0, 32, 0, 32, 0, 32, 0, 32, 0, 32, 0, 32, 0, 8, 0, 0, 32, 6000, 0, 32, 0, 32, 0, 32, 0, 32, 0, 32, 0, 32, 0, 32, 0, 32, 0, 8, 0, 0, 32, 32000, 0, 32, 0, 32, 0, 32, 0, 32, 0, 32, 0, 32, 0, 32, 0, 32, 0, 256, 0, 0, 2000, 2000, 0, 2000, 2001, 2000, 2000, 0, 60, 0, 4, 4000, 0, 20, 20, 0, 20, 20, 0, 20, 20, 0, 20, 20, 0, 20, 20, 0, 20, 20, 0, 20, 20, 0, 20, 20, 0, 20, 20, 0, 20, 20, 0, 20, 20, 0, 20, 20, 0, 20, 20, 0, 20, 20, 0, 20, 20, 0, 20, 20, 0, 20, 20, 0, 20, 20, 0, 20, 20, 0, 20, 20, 0, 20, 20, 0, 20, 20, 0, 20, 20, 0, 20, 20, 0, 20, 20, 0, 20, 20, 0, 20, 20, 0, 20, 20, 0, 20, 20, 0, 20, 20, 0, 20, 20, 0, 20, 20, 0, 20, 20, 0, 20, 20, 0, 20, 20, 0, 20, 20, 0, 20, 20, 0, 20, 20, 0, 20, 20, 0, 20, 20, 0, 20, 20, 0, 20, 20, 0, 20, 20, 0, 20, 20, 0, 20, 20, 0, 20, 20, 0, 20, 20, 0, 20, 20, 0, 20, 20, 0, 20, 20, 0, 20, 20, 0, 20, 20, 0, 20, 20, 0, 20, 20, 0, 20, 20, 0, 20, 20, 0, 20, 20, 0, 20, 20, 0, 20, 20, 0, 20, 20]
/-! THE REFERENCE OVER ITS INTS ALONE: its cells are 285 (the object) and 286 to 319 (its rows), its references never change -/
abbrev hm : Type := Nat → Nat → Int32
def hm_w (g : hm) (a j : Nat) (v : Int32) : hm := fun b i => if b = a then (if i = j then v else g b i) else g b i
def hm_kl : List Nat := [10, 100, 100, 100, 100, 100, 100, 100, 101, 101, 100, 101, 100, 100, 100, 100, 100, 100, 100, 100, 100, 100, 100, 100, 100, 101, 100, 100, 100, 100, 100, 100, 100, 100, 100]
def hm_nl : List Nat := [0, 6000, 8, 8, 8, 8, 256, 16008, 16008, 2008, 16008, 16008, 8, 8, 8, 8, 8, 256, 16008, 32008, 8, 256, 8, 2001, 2001, 2001, 12008, 256, 4, 4004, 60, 60, 60, 1440, 1200]
def hm_R (j : Nat) : Nat := [0, 287, 0, 0, 0, 288, 289, 290, 291, 292, 293, 294, 295, 296, 297, 298, 299, 300, 301, 302, 303, 304, 0, 305, 306, 307, 308, 309, 310, 311, 312, 0, 313, 0, 314, 315, 0, 0, 0, 0, 0, 316, 317, 318, 319, 320, 0, 0].getD j 0
/-- the state with the shape that both constructors leave (kinds and lengths below 285: the class's) -/
def gm_k (a : Nat) : Nat := if a < 285 then hc_kl.getD a 999 else hm_kl.getD (a - 285) 999
def gm_n (a : Nat) : Nat := if a < 285 then hc_nl.getD a 0 else hm_nl.getD (a - 285) 0
def gm (g : hm) (R : Nat → Nat → Nat) : hs_S := (320, gm_k, gm_n, g, R)
theorem gm_I (g : hm) (R : Nat → Nat → Nat) (a j : Nat) : hs_I (gm g R) a j = g a j := rfl
theorem gm_R (g : hm) (R : Nat → Nat → Nat) (a j : Nat) : hs_R (gm g R) a j = R a j := rfl
theorem gm_w (g : hm) (R : Nat → Nat → Nat) (a j : Nat) (v : Int32) : hs_wI (gm g R) a j v = gm (hm_w g a j v) R := rfl
theorem gm_kd (g : hm) (R : Nat → Nat → Nat) (a : Nat) : hs_kd (gm g R) a = gm_k a := rfl
theorem gm_ln (g : hm) (R : Nat → Nat → Nat) (a : Nat) : hs_ln (gm g R) a = gm_n a := rfl
theorem gk_285 : gm_k 285 = 10 := by decide +kernel
theorem gk_286 : gm_k 286 = 100 := by decide +kernel
theorem gn_286 : gm_n 286 = 6000 := by decide +kernel
theorem gk_287 : gm_k 287 = 100 := by decide +kernel
theorem gn_287 : gm_n 287 = 8 := by decide +kernel
theorem gk_288 : gm_k 288 = 100 := by decide +kernel
theorem gn_288 : gm_n 288 = 8 := by decide +kernel
theorem gk_289 : gm_k 289 = 100 := by decide +kernel
theorem gn_289 : gm_n 289 = 8 := by decide +kernel
theorem gk_290 : gm_k 290 = 100 := by decide +kernel
theorem gn_290 : gm_n 290 = 8 := by decide +kernel
theorem gk_291 : gm_k 291 = 100 := by decide +kernel
theorem gn_291 : gm_n 291 = 256 := by decide +kernel
theorem gk_292 : gm_k 292 = 100 := by decide +kernel
theorem gn_292 : gm_n 292 = 16008 := by decide +kernel
theorem gk_293 : gm_k 293 = 101 := by decide +kernel
theorem gn_293 : gm_n 293 = 16008 := by decide +kernel
theorem gk_294 : gm_k 294 = 101 := by decide +kernel
theorem gn_294 : gm_n 294 = 2008 := by decide +kernel
theorem gk_295 : gm_k 295 = 100 := by decide +kernel
theorem gn_295 : gm_n 295 = 16008 := by decide +kernel
theorem gk_296 : gm_k 296 = 101 := by decide +kernel
theorem gn_296 : gm_n 296 = 16008 := by decide +kernel
theorem gk_297 : gm_k 297 = 100 := by decide +kernel
theorem gn_297 : gm_n 297 = 8 := by decide +kernel
theorem gk_298 : gm_k 298 = 100 := by decide +kernel
theorem gn_298 : gm_n 298 = 8 := by decide +kernel
theorem gk_299 : gm_k 299 = 100 := by decide +kernel
theorem gn_299 : gm_n 299 = 8 := by decide +kernel
theorem gk_300 : gm_k 300 = 100 := by decide +kernel
theorem gn_300 : gm_n 300 = 8 := by decide +kernel
theorem gk_301 : gm_k 301 = 100 := by decide +kernel
theorem gn_301 : gm_n 301 = 8 := by decide +kernel
theorem gk_302 : gm_k 302 = 100 := by decide +kernel
theorem gn_302 : gm_n 302 = 256 := by decide +kernel
theorem gk_303 : gm_k 303 = 100 := by decide +kernel
theorem gn_303 : gm_n 303 = 16008 := by decide +kernel
theorem gk_304 : gm_k 304 = 100 := by decide +kernel
theorem gn_304 : gm_n 304 = 32008 := by decide +kernel
theorem gk_305 : gm_k 305 = 100 := by decide +kernel
theorem gn_305 : gm_n 305 = 8 := by decide +kernel
theorem gk_306 : gm_k 306 = 100 := by decide +kernel
theorem gn_306 : gm_n 306 = 256 := by decide +kernel
theorem gk_307 : gm_k 307 = 100 := by decide +kernel
theorem gn_307 : gm_n 307 = 8 := by decide +kernel
theorem gk_308 : gm_k 308 = 100 := by decide +kernel
theorem gn_308 : gm_n 308 = 2001 := by decide +kernel
theorem gk_309 : gm_k 309 = 100 := by decide +kernel
theorem gn_309 : gm_n 309 = 2001 := by decide +kernel
theorem gk_310 : gm_k 310 = 101 := by decide +kernel
theorem gn_310 : gm_n 310 = 2001 := by decide +kernel
theorem gk_311 : gm_k 311 = 100 := by decide +kernel
theorem gn_311 : gm_n 311 = 12008 := by decide +kernel
theorem gk_312 : gm_k 312 = 100 := by decide +kernel
theorem gn_312 : gm_n 312 = 256 := by decide +kernel
theorem gk_313 : gm_k 313 = 100 := by decide +kernel
theorem gn_313 : gm_n 313 = 4 := by decide +kernel
theorem gk_314 : gm_k 314 = 100 := by decide +kernel
theorem gn_314 : gm_n 314 = 4004 := by decide +kernel
theorem gk_315 : gm_k 315 = 100 := by decide +kernel
theorem gn_315 : gm_n 315 = 60 := by decide +kernel
theorem gk_316 : gm_k 316 = 100 := by decide +kernel
theorem gn_316 : gm_n 316 = 60 := by decide +kernel
theorem gk_317 : gm_k 317 = 100 := by decide +kernel
theorem gn_317 : gm_n 317 = 60 := by decide +kernel
theorem gk_318 : gm_k 318 = 100 := by decide +kernel
theorem gn_318 : gm_n 318 = 1440 := by decide +kernel
theorem gk_319 : gm_k 319 = 100 := by decide +kernel
theorem gn_319 : gm_n 319 = 1200 := by decide +kernel
theorem gr_1 : hm_R 1 - 1 = 286 := by decide +kernel
theorem gz_1 : (hm_R 1 = 0) = False := eq_false (by decide +kernel)
theorem gr_5 : hm_R 5 - 1 = 287 := by decide +kernel
theorem gz_5 : (hm_R 5 = 0) = False := eq_false (by decide +kernel)
theorem gr_6 : hm_R 6 - 1 = 288 := by decide +kernel
theorem gz_6 : (hm_R 6 = 0) = False := eq_false (by decide +kernel)
theorem gr_7 : hm_R 7 - 1 = 289 := by decide +kernel
theorem gz_7 : (hm_R 7 = 0) = False := eq_false (by decide +kernel)
theorem gr_8 : hm_R 8 - 1 = 290 := by decide +kernel
theorem gz_8 : (hm_R 8 = 0) = False := eq_false (by decide +kernel)
theorem gr_9 : hm_R 9 - 1 = 291 := by decide +kernel
theorem gz_9 : (hm_R 9 = 0) = False := eq_false (by decide +kernel)
theorem gr_10 : hm_R 10 - 1 = 292 := by decide +kernel
theorem gz_10 : (hm_R 10 = 0) = False := eq_false (by decide +kernel)
theorem gr_11 : hm_R 11 - 1 = 293 := by decide +kernel
theorem gz_11 : (hm_R 11 = 0) = False := eq_false (by decide +kernel)
theorem gr_12 : hm_R 12 - 1 = 294 := by decide +kernel
theorem gz_12 : (hm_R 12 = 0) = False := eq_false (by decide +kernel)
theorem gr_13 : hm_R 13 - 1 = 295 := by decide +kernel
theorem gz_13 : (hm_R 13 = 0) = False := eq_false (by decide +kernel)
theorem gr_14 : hm_R 14 - 1 = 296 := by decide +kernel
theorem gz_14 : (hm_R 14 = 0) = False := eq_false (by decide +kernel)
theorem gr_15 : hm_R 15 - 1 = 297 := by decide +kernel
theorem gz_15 : (hm_R 15 = 0) = False := eq_false (by decide +kernel)
theorem gr_16 : hm_R 16 - 1 = 298 := by decide +kernel
theorem gz_16 : (hm_R 16 = 0) = False := eq_false (by decide +kernel)
theorem gr_17 : hm_R 17 - 1 = 299 := by decide +kernel
theorem gz_17 : (hm_R 17 = 0) = False := eq_false (by decide +kernel)
theorem gr_18 : hm_R 18 - 1 = 300 := by decide +kernel
theorem gz_18 : (hm_R 18 = 0) = False := eq_false (by decide +kernel)
theorem gr_19 : hm_R 19 - 1 = 301 := by decide +kernel
theorem gz_19 : (hm_R 19 = 0) = False := eq_false (by decide +kernel)
theorem gr_20 : hm_R 20 - 1 = 302 := by decide +kernel
theorem gz_20 : (hm_R 20 = 0) = False := eq_false (by decide +kernel)
theorem gr_21 : hm_R 21 - 1 = 303 := by decide +kernel
theorem gz_21 : (hm_R 21 = 0) = False := eq_false (by decide +kernel)
theorem gr_23 : hm_R 23 - 1 = 304 := by decide +kernel
theorem gz_23 : (hm_R 23 = 0) = False := eq_false (by decide +kernel)
theorem gr_24 : hm_R 24 - 1 = 305 := by decide +kernel
theorem gz_24 : (hm_R 24 = 0) = False := eq_false (by decide +kernel)
theorem gr_25 : hm_R 25 - 1 = 306 := by decide +kernel
theorem gz_25 : (hm_R 25 = 0) = False := eq_false (by decide +kernel)
theorem gr_26 : hm_R 26 - 1 = 307 := by decide +kernel
theorem gz_26 : (hm_R 26 = 0) = False := eq_false (by decide +kernel)
theorem gr_27 : hm_R 27 - 1 = 308 := by decide +kernel
theorem gz_27 : (hm_R 27 = 0) = False := eq_false (by decide +kernel)
theorem gr_28 : hm_R 28 - 1 = 309 := by decide +kernel
theorem gz_28 : (hm_R 28 = 0) = False := eq_false (by decide +kernel)
theorem gr_29 : hm_R 29 - 1 = 310 := by decide +kernel
theorem gz_29 : (hm_R 29 = 0) = False := eq_false (by decide +kernel)
theorem gr_30 : hm_R 30 - 1 = 311 := by decide +kernel
theorem gz_30 : (hm_R 30 = 0) = False := eq_false (by decide +kernel)
theorem gr_32 : hm_R 32 - 1 = 312 := by decide +kernel
theorem gz_32 : (hm_R 32 = 0) = False := eq_false (by decide +kernel)
theorem gr_34 : hm_R 34 - 1 = 313 := by decide +kernel
theorem gz_34 : (hm_R 34 = 0) = False := eq_false (by decide +kernel)
theorem gr_35 : hm_R 35 - 1 = 314 := by decide +kernel
theorem gz_35 : (hm_R 35 = 0) = False := eq_false (by decide +kernel)
theorem gr_41 : hm_R 41 - 1 = 315 := by decide +kernel
theorem gz_41 : (hm_R 41 = 0) = False := eq_false (by decide +kernel)
theorem gr_42 : hm_R 42 - 1 = 316 := by decide +kernel
theorem gz_42 : (hm_R 42 = 0) = False := eq_false (by decide +kernel)
theorem gr_43 : hm_R 43 - 1 = 317 := by decide +kernel
theorem gz_43 : (hm_R 43 = 0) = False := eq_false (by decide +kernel)
theorem gr_44 : hm_R 44 - 1 = 318 := by decide +kernel
theorem gz_44 : (hm_R 44 = 0) = False := eq_false (by decide +kernel)
theorem gr_45 : hm_R 45 - 1 = 319 := by decide +kernel
theorem gz_45 : (hm_R 45 = 0) = False := eq_false (by decide +kernel)
def hm_bd {α σ β : Type} (x : Option (α × σ)) (f : α → σ → Option β) : Option β := match x with
  | none => none
  | some (r, g) => f r g
def hm_bv {σ β : Type} (x : Option σ) (f : σ → Option β) : Option β := match x with
  | none => none
  | some g => f g
def hl_v (R : Nat → Nat → Nat) (x : Option hm) : Option hs_S := match x with
  | none => none
  | some g => some (gm g R)
def hl_d {α : Type} (R : Nat → Nat → Nat) (x : Option (α × hm)) : Option (α × hs_S) := match x with
  | none => none
  | some (r, g) => some (r, gm g R)
def hm_b3 {α0 α1 σ γ : Type} (x : Option (α0 × α1 × σ)) (f : α0 → α1 → σ → Option γ) : Option γ := match x with
  | none => none
  | some (a0, a1, g) => f a0 a1 g
def hl_3 {α0 α1 : Type} (R : Nat → Nat → Nat) (x : Option (α0 × α1 × hm)) : Option (α0 × α1 × hs_S) := match x with
  | none => none
  | some (a0, a1, g) => some (a0, a1, gm g R)
def hm_b4 {α0 α1 α2 σ γ : Type} (x : Option (α0 × α1 × α2 × σ)) (f : α0 → α1 → α2 → σ → Option γ) : Option γ := match x with
  | none => none
  | some (a0, a1, a2, g) => f a0 a1 a2 g
def hl_4 {α0 α1 α2 : Type} (R : Nat → Nat → Nat) (x : Option (α0 × α1 × α2 × hm)) : Option (α0 × α1 × α2 × hs_S) := match x with
  | none => none
  | some (a0, a1, a2, g) => some (a0, a1, a2, gm g R)
def hm_b5 {α0 α1 α2 α3 σ γ : Type} (x : Option (α0 × α1 × α2 × α3 × σ)) (f : α0 → α1 → α2 → α3 → σ → Option γ) : Option γ := match x with
  | none => none
  | some (a0, a1, a2, a3, g) => f a0 a1 a2 a3 g
def hl_5 {α0 α1 α2 α3 : Type} (R : Nat → Nat → Nat) (x : Option (α0 × α1 × α2 × α3 × hm)) : Option (α0 × α1 × α2 × α3 × hs_S) := match x with
  | none => none
  | some (a0, a1, a2, a3, g) => some (a0, a1, a2, a3, gm g R)
theorem hl_v_none (R : Nat → Nat → Nat) : hl_v R (none : Option (hm)) = none := rfl
theorem hl_v_ite (R : Nat → Nat → Nat) (c : Prop) {i : Decidable c} (x y : Option (hm)) : hl_v R (@ite _ c i x y) = @ite _ c i (hl_v R x) (hl_v R y) := by by_cases h : c <;> simp [h]
theorem hl_d_none {α : Type} (R : Nat → Nat → Nat) : hl_d R (none : Option (α × hm)) = none := rfl
theorem hl_d_ite {α : Type} (R : Nat → Nat → Nat) (c : Prop) {i : Decidable c} (x y : Option (α × hm)) : hl_d R (@ite _ c i x y) = @ite _ c i (hl_d R x) (hl_d R y) := by by_cases h : c <;> simp [h]
theorem hl_3_none {α0 α1 : Type} (R : Nat → Nat → Nat) : hl_3 R (none : Option (α0 × α1 × hm)) = none := rfl
theorem hl_3_ite {α0 α1 : Type} (R : Nat → Nat → Nat) (c : Prop) {i : Decidable c} (x y : Option (α0 × α1 × hm)) : hl_3 R (@ite _ c i x y) = @ite _ c i (hl_3 R x) (hl_3 R y) := by by_cases h : c <;> simp [h]
theorem hl_4_none {α0 α1 α2 : Type} (R : Nat → Nat → Nat) : hl_4 R (none : Option (α0 × α1 × α2 × hm)) = none := rfl
theorem hl_4_ite {α0 α1 α2 : Type} (R : Nat → Nat → Nat) (c : Prop) {i : Decidable c} (x y : Option (α0 × α1 × α2 × hm)) : hl_4 R (@ite _ c i x y) = @ite _ c i (hl_4 R x) (hl_4 R y) := by by_cases h : c <;> simp [h]
theorem hl_5_none {α0 α1 α2 α3 : Type} (R : Nat → Nat → Nat) : hl_5 R (none : Option (α0 × α1 × α2 × α3 × hm)) = none := rfl
theorem hl_5_ite {α0 α1 α2 α3 : Type} (R : Nat → Nat → Nat) (c : Prop) {i : Decidable c} (x y : Option (α0 × α1 × α2 × α3 × hm)) : hl_5 R (@ite _ c i x y) = @ite _ c i (hl_5 R x) (hl_5 R y) := by by_cases h : c <;> simp [h]
theorem hl_v_some (R : Nat → Nat → Nat) (g : hm) : hl_v R (some g) = some (gm g R) := rfl
theorem hl_d_some {α : Type} (R : Nat → Nat → Nat) (r : α) (g : hm) : hl_d R (some (r, g)) = some (r, gm g R) := rfl
theorem hl_3_some {α0 α1 : Type} (R : Nat → Nat → Nat) (a0 : α0) (a1 : α1) (g : hm) : hl_3 R (some (a0, a1, g)) = some (a0, a1, gm g R) := rfl
theorem hl_4_some {α0 α1 α2 : Type} (R : Nat → Nat → Nat) (a0 : α0) (a1 : α1) (a2 : α2) (g : hm) : hl_4 R (some (a0, a1, a2, g)) = some (a0, a1, a2, gm g R) := rfl
theorem hl_5_some {α0 α1 α2 α3 : Type} (R : Nat → Nat → Nat) (a0 : α0) (a1 : α1) (a2 : α2) (a3 : α3) (g : hm) : hl_5 R (some (a0, a1, a2, a3, g)) = some (a0, a1, a2, a3, gm g R) := rfl
theorem hl_v_bv (R : Nat → Nat → Nat) (x : Option (hm)) (f : hm → Option (hm)) : hl_v R (hm_bv x f) = hm_bv x (fun  g => hl_v R (f  g)) := by cases x <;> rfl
theorem hl_d_bv {α : Type} (R : Nat → Nat → Nat) (x : Option (hm)) (f : hm → Option (α × hm)) : hl_d R (hm_bv x f) = hm_bv x (fun  g => hl_d R (f  g)) := by cases x <;> rfl
theorem hl_3_bv {α0 α1 : Type} (R : Nat → Nat → Nat) (x : Option (hm)) (f : hm → Option (α0 × α1 × hm)) : hl_3 R (hm_bv x f) = hm_bv x (fun  g => hl_3 R (f  g)) := by cases x <;> rfl
theorem hl_4_bv {α0 α1 α2 : Type} (R : Nat → Nat → Nat) (x : Option (hm)) (f : hm → Option (α0 × α1 × α2 × hm)) : hl_4 R (hm_bv x f) = hm_bv x (fun  g => hl_4 R (f  g)) := by cases x <;> rfl
theorem hl_5_bv {α0 α1 α2 α3 : Type} (R : Nat → Nat → Nat) (x : Option (hm)) (f : hm → Option (α0 × α1 × α2 × α3 × hm)) : hl_5 R (hm_bv x f) = hm_bv x (fun  g => hl_5 R (f  g)) := by cases x <;> rfl
theorem hl_bv {γ : Type} (R : Nat → Nat → Nat) (x : Option (hm)) (f : hs_S → Option γ) : hs_bv (hl_v R x) f = hm_bv x (fun  g => f  (gm g R)) := by cases x <;> rfl
theorem hl_v_bd {β0 : Type} (R : Nat → Nat → Nat) (x : Option (β0 × hm)) (f : β0 → hm → Option (hm)) : hl_v R (hm_bd x f) = hm_bd x (fun b0 g => hl_v R (f b0 g)) := by cases x <;> rfl
theorem hl_d_bd {α : Type} {β0 : Type} (R : Nat → Nat → Nat) (x : Option (β0 × hm)) (f : β0 → hm → Option (α × hm)) : hl_d R (hm_bd x f) = hm_bd x (fun b0 g => hl_d R (f b0 g)) := by cases x <;> rfl
theorem hl_3_bd {α0 α1 : Type} {β0 : Type} (R : Nat → Nat → Nat) (x : Option (β0 × hm)) (f : β0 → hm → Option (α0 × α1 × hm)) : hl_3 R (hm_bd x f) = hm_bd x (fun b0 g => hl_3 R (f b0 g)) := by cases x <;> rfl
theorem hl_4_bd {α0 α1 α2 : Type} {β0 : Type} (R : Nat → Nat → Nat) (x : Option (β0 × hm)) (f : β0 → hm → Option (α0 × α1 × α2 × hm)) : hl_4 R (hm_bd x f) = hm_bd x (fun b0 g => hl_4 R (f b0 g)) := by cases x <;> rfl
theorem hl_5_bd {α0 α1 α2 α3 : Type} {β0 : Type} (R : Nat → Nat → Nat) (x : Option (β0 × hm)) (f : β0 → hm → Option (α0 × α1 × α2 × α3 × hm)) : hl_5 R (hm_bd x f) = hm_bd x (fun b0 g => hl_5 R (f b0 g)) := by cases x <;> rfl
theorem hl_bd {β0 : Type} {γ : Type} (R : Nat → Nat → Nat) (x : Option (β0 × hm)) (f : β0 → hs_S → Option γ) : hs_bd (hl_d R x) f = hm_bd x (fun b0 g => f b0 (gm g R)) := by cases x <;> rfl
theorem hl_v_b3 {β0 β1 : Type} (R : Nat → Nat → Nat) (x : Option (β0 × β1 × hm)) (f : β0 → β1 → hm → Option (hm)) : hl_v R (hm_b3 x f) = hm_b3 x (fun b0 b1 g => hl_v R (f b0 b1 g)) := by cases x <;> rfl
theorem hl_d_b3 {α : Type} {β0 β1 : Type} (R : Nat → Nat → Nat) (x : Option (β0 × β1 × hm)) (f : β0 → β1 → hm → Option (α × hm)) : hl_d R (hm_b3 x f) = hm_b3 x (fun b0 b1 g => hl_d R (f b0 b1 g)) := by cases x <;> rfl
theorem hl_3_b3 {α0 α1 : Type} {β0 β1 : Type} (R : Nat → Nat → Nat) (x : Option (β0 × β1 × hm)) (f : β0 → β1 → hm → Option (α0 × α1 × hm)) : hl_3 R (hm_b3 x f) = hm_b3 x (fun b0 b1 g => hl_3 R (f b0 b1 g)) := by cases x <;> rfl
theorem hl_4_b3 {α0 α1 α2 : Type} {β0 β1 : Type} (R : Nat → Nat → Nat) (x : Option (β0 × β1 × hm)) (f : β0 → β1 → hm → Option (α0 × α1 × α2 × hm)) : hl_4 R (hm_b3 x f) = hm_b3 x (fun b0 b1 g => hl_4 R (f b0 b1 g)) := by cases x <;> rfl
theorem hl_5_b3 {α0 α1 α2 α3 : Type} {β0 β1 : Type} (R : Nat → Nat → Nat) (x : Option (β0 × β1 × hm)) (f : β0 → β1 → hm → Option (α0 × α1 × α2 × α3 × hm)) : hl_5 R (hm_b3 x f) = hm_b3 x (fun b0 b1 g => hl_5 R (f b0 b1 g)) := by cases x <;> rfl
theorem hl_b3 {β0 β1 : Type} {γ : Type} (R : Nat → Nat → Nat) (x : Option (β0 × β1 × hm)) (f : β0 → β1 → hs_S → Option γ) : hs_b3 (hl_3 R x) f = hm_b3 x (fun b0 b1 g => f b0 b1 (gm g R)) := by cases x <;> rfl
theorem hl_v_b4 {β0 β1 β2 : Type} (R : Nat → Nat → Nat) (x : Option (β0 × β1 × β2 × hm)) (f : β0 → β1 → β2 → hm → Option (hm)) : hl_v R (hm_b4 x f) = hm_b4 x (fun b0 b1 b2 g => hl_v R (f b0 b1 b2 g)) := by cases x <;> rfl
theorem hl_d_b4 {α : Type} {β0 β1 β2 : Type} (R : Nat → Nat → Nat) (x : Option (β0 × β1 × β2 × hm)) (f : β0 → β1 → β2 → hm → Option (α × hm)) : hl_d R (hm_b4 x f) = hm_b4 x (fun b0 b1 b2 g => hl_d R (f b0 b1 b2 g)) := by cases x <;> rfl
theorem hl_3_b4 {α0 α1 : Type} {β0 β1 β2 : Type} (R : Nat → Nat → Nat) (x : Option (β0 × β1 × β2 × hm)) (f : β0 → β1 → β2 → hm → Option (α0 × α1 × hm)) : hl_3 R (hm_b4 x f) = hm_b4 x (fun b0 b1 b2 g => hl_3 R (f b0 b1 b2 g)) := by cases x <;> rfl
theorem hl_4_b4 {α0 α1 α2 : Type} {β0 β1 β2 : Type} (R : Nat → Nat → Nat) (x : Option (β0 × β1 × β2 × hm)) (f : β0 → β1 → β2 → hm → Option (α0 × α1 × α2 × hm)) : hl_4 R (hm_b4 x f) = hm_b4 x (fun b0 b1 b2 g => hl_4 R (f b0 b1 b2 g)) := by cases x <;> rfl
theorem hl_5_b4 {α0 α1 α2 α3 : Type} {β0 β1 β2 : Type} (R : Nat → Nat → Nat) (x : Option (β0 × β1 × β2 × hm)) (f : β0 → β1 → β2 → hm → Option (α0 × α1 × α2 × α3 × hm)) : hl_5 R (hm_b4 x f) = hm_b4 x (fun b0 b1 b2 g => hl_5 R (f b0 b1 b2 g)) := by cases x <;> rfl
theorem hl_b4 {β0 β1 β2 : Type} {γ : Type} (R : Nat → Nat → Nat) (x : Option (β0 × β1 × β2 × hm)) (f : β0 → β1 → β2 → hs_S → Option γ) : hs_b4 (hl_4 R x) f = hm_b4 x (fun b0 b1 b2 g => f b0 b1 b2 (gm g R)) := by cases x <;> rfl
theorem hl_v_b5 {β0 β1 β2 β3 : Type} (R : Nat → Nat → Nat) (x : Option (β0 × β1 × β2 × β3 × hm)) (f : β0 → β1 → β2 → β3 → hm → Option (hm)) : hl_v R (hm_b5 x f) = hm_b5 x (fun b0 b1 b2 b3 g => hl_v R (f b0 b1 b2 b3 g)) := by cases x <;> rfl
theorem hl_d_b5 {α : Type} {β0 β1 β2 β3 : Type} (R : Nat → Nat → Nat) (x : Option (β0 × β1 × β2 × β3 × hm)) (f : β0 → β1 → β2 → β3 → hm → Option (α × hm)) : hl_d R (hm_b5 x f) = hm_b5 x (fun b0 b1 b2 b3 g => hl_d R (f b0 b1 b2 b3 g)) := by cases x <;> rfl
theorem hl_3_b5 {α0 α1 : Type} {β0 β1 β2 β3 : Type} (R : Nat → Nat → Nat) (x : Option (β0 × β1 × β2 × β3 × hm)) (f : β0 → β1 → β2 → β3 → hm → Option (α0 × α1 × hm)) : hl_3 R (hm_b5 x f) = hm_b5 x (fun b0 b1 b2 b3 g => hl_3 R (f b0 b1 b2 b3 g)) := by cases x <;> rfl
theorem hl_4_b5 {α0 α1 α2 : Type} {β0 β1 β2 β3 : Type} (R : Nat → Nat → Nat) (x : Option (β0 × β1 × β2 × β3 × hm)) (f : β0 → β1 → β2 → β3 → hm → Option (α0 × α1 × α2 × hm)) : hl_4 R (hm_b5 x f) = hm_b5 x (fun b0 b1 b2 b3 g => hl_4 R (f b0 b1 b2 b3 g)) := by cases x <;> rfl
theorem hl_5_b5 {α0 α1 α2 α3 : Type} {β0 β1 β2 β3 : Type} (R : Nat → Nat → Nat) (x : Option (β0 × β1 × β2 × β3 × hm)) (f : β0 → β1 → β2 → β3 → hm → Option (α0 × α1 × α2 × α3 × hm)) : hl_5 R (hm_b5 x f) = hm_b5 x (fun b0 b1 b2 b3 g => hl_5 R (f b0 b1 b2 b3 g)) := by cases x <;> rfl
theorem hl_b5 {β0 β1 β2 β3 : Type} {γ : Type} (R : Nat → Nat → Nat) (x : Option (β0 × β1 × β2 × β3 × hm)) (f : β0 → β1 → β2 → β3 → hs_S → Option γ) : hs_b5 (hl_5 R x) f = hm_b5 x (fun b0 b1 b2 b3 g => f b0 b1 b2 b3 (gm g R)) := by cases x <;> rfl
theorem hs_bv_i {γ : Type} (g : hs_S) (f : hs_S → Option γ) : hs_bv (some g) f = f g := rfl
theorem hm_bv_i {σ γ : Type} (g : σ) (f : σ → Option γ) : hm_bv (some g) f = f g := rfl
