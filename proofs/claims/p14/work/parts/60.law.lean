/-! THE LAW -/
theorem Tq.hbd {α β : Type} {x : Option (α × hs_S)} {f : α → hs_S → Option β} {Q : α × hs_S → Prop} {P : β → Prop} (h : Tq x Q) (k : ∀ r g', Q (r, g') → Tq (f r g') P) : Tq (hs_bd x f) P := by
  obtain ⟨⟨r, s⟩, e, q⟩ := h
  rw [e]; exact k r s q
theorem Tq.hbv {β : Type} {x : Option hs_S} {f : hs_S → Option β} {Q : hs_S → Prop} {P : β → Prop} (h : Tq x Q) (k : ∀ g', Q g' → Tq (f g') P) : Tq (hs_bv x f) P := by
  obtain ⟨s, e, q⟩ := h
  rw [e]; exact k s q
/-- what a call of the reference leaves -/
def rP (s q : hs_S) : Prop := CJ q ∧ RJ (hs_I q) ∧ (∀ a, a < 285 → hs_I q a = hs_I s a) ∧ hs_R q = hs_R s
theorem CJ.ref {s : hs_S} (h : CJ s) {g' : hm} (k : mK (hs_I s) g') : CJ (gm g' (hs_R s)) := by
  refine ⟨⟨rfl, rfl, rfl, h.1.2.2.2.1, fun a ha => ?_, fun a ha => ?_⟩, h.2.1, h.2.2⟩
  · show g' a 2 < 1000000 ∧ g' a 3 < 1000000
    rw [k a (ck_lt ha (by decide)).1]; exact h.1.2.2.2.2.1 a ha
  · show 0 ≤ g' a 3 ∧ g' a 3 ≤ 32000
    rw [k a (ck_lt ha (by decide)).1]; exact h.1.2.2.2.2.2 a ha
theorem rf_d {s : hs_S} (h : CJ s) {x : Option (Int32 × hs_S)} {n : Option (Int32 × hm)} (e : x = hl_d (hs_R s) n) {P : Int32 × hm → Prop} (hn : Tq n (fun q => RJ q.2 ∧ mK (hs_I s) q.2 ∧ P q)) : Tq x (fun q => rP s q.2 ∧ P (q.1, hs_I q.2)) := by
  obtain ⟨⟨r, g'⟩, e1, h1, h2, h3⟩ := hn
  rw [e1] at e
  rw [e]
  exact ⟨_, rfl, ⟨h.ref h2, h1, fun a ha => h2 a ha, rfl⟩, h3⟩
theorem rf_v {s : hs_S} (h : CJ s) {x : Option hs_S} {n : Option hm} (e : x = hl_v (hs_R s) n) {P : hm → Prop} (hn : Tq n (fun q => RJ q ∧ mK (hs_I s) q ∧ P q)) : Tq x (fun q => rP s q ∧ P (hs_I q)) := by
  obtain ⟨g', e1, h1, h2, h3⟩ := hn
  rw [e1] at e
  rw [e]
  exact ⟨_, rfl, ⟨h.ref h2, h1, fun a ha => h2 a ha, rfl⟩, h3⟩
/-- the reference's calls, on the whole state -/
theorem f_feed {s : hs_S} (h : CJ s) (hr : RJ (hs_I s)) (w : Int64) (a : Int32) {t : Nat} {T : Nat → Nat} (hT : s_T (hs_I s) t T) : Tq (fX12_feed 285 w a s) (fun q => rP s q.2 ∧ hs_I q.2 312 = hs_I s 312 ∧ (((¬ ∃ r, 1 ≤ r ∧ r ≤ 8 ∧ a = nI r) ∧ q.1 = -3 ∧ hs_I q.2 285 2 = nI t) ∨ ∃ r, 1 ≤ r ∧ r ≤ 8 ∧ a = nI r ∧ ((6000 < t + r ∧ q.1 = -4 ∧ hs_I q.2 285 2 = nI t) ∨ (t + r ≤ 6000 ∧ q.1 = nI (t + r) ∧ hs_I q.2 285 2 = nI (t + r))))) := by
  have e := tX12_feed (hs_R s) h.2.1 w a (hs_I s)
  rw [← h.1.gm] at e
  exact rf_d (P := fun q => q.2 312 = hs_I s 312 ∧ (((¬ ∃ r, 1 ≤ r ∧ r ≤ 8 ∧ a = nI r) ∧ q.1 = -3 ∧ q.2 285 2 = nI t) ∨ ∃ r, 1 ≤ r ∧ r ≤ 8 ∧ a = nI r ∧ ((6000 < t + r ∧ q.1 = -4 ∧ q.2 285 2 = nI t) ∨ (t + r ≤ 6000 ∧ q.1 = nI (t + r) ∧ q.2 285 2 = nI (t + r))))) h e ((r_feed hr w a hT).mono fun q hq => ⟨hq.1.1, hq.1.2.1, hq.1.2.2, hq.2⟩)
theorem f_load {s : hs_S} (h : CJ s) (hr : RJ (hs_I s)) : Tq (fX12_load 285 s) (fun q => rP s q.2 ∧ hs_I q.2 285 2 = 0 ∧ hs_I q.2 312 = hs_I s 312) := by
  have e := tX12_load (hs_R s) h.2.1 (hs_I s)
  rw [← h.1.gm] at e
  exact rf_d (P := fun q => q.2 285 2 = 0 ∧ q.2 312 = hs_I s 312) h e (r_load hr)
theorem f_price {s : hs_S} (h : CJ s) (hr : RJ (hs_I s)) (a b : Int32) : Tq (fX12_price 285 a b s) (fun q => rP s q.2 ∧ hs_I q.2 285 2 = hs_I s 285 2) := by
  have e := tX12_price (hs_R s) h.2.1 a b (hs_I s)
  rw [← h.1.gm] at e
  exact rf_d (P := fun q => q.2 285 2 = hs_I s 285 2) h e (r_price hr a b)
theorem f_rewrite {s : hs_S} (h : CJ s) (hr : RJ (hs_I s)) : Tq (fX12_rewrite 285 s) (fun q => rP s q.2 ∧ hs_I q.2 285 2 = hs_I s 285 2 ∧ hs_I q.2 312 = hs_I s 312) := by
  have e := tX12_rewrite (hs_R s) h.2.1 (hs_I s)
  rw [← h.1.gm] at e
  exact rf_d (P := fun q => q.2 285 2 = hs_I s 285 2 ∧ q.2 312 = hs_I s 312) h e (r_rewrite hr)
theorem f_told {s : hs_S} (h : CJ s) (hr : RJ (hs_I s)) (a1 a2 a3 : Int32) : Tq (fX12_told 285 a1 a2 a3 s) (fun q => rP s q.2 ∧ hs_I q.2 285 2 = hs_I s 285 2 ∧ hs_I q.2 312 = hs_I s 312) := by
  have e := tX12_told (hs_R s) h.2.1 a1 a2 a3 (hs_I s)
  rw [← h.1.gm] at e
  exact rf_d (P := fun q => q.2 285 2 = hs_I s 285 2 ∧ q.2 312 = hs_I s 312) h e (r_told hr a1 a2 a3)
theorem f_byteAt {s : hs_S} (h : CJ s) (hr : RJ (hs_I s)) (a1 a2 a3 : Int32) : Tq (fX12_byteAt 285 a1 a2 a3 s) (fun q => rP s q.2 ∧ hs_I q.2 285 2 = hs_I s 285 2 ∧ hs_I q.2 312 = hs_I s 312) := by
  have e := tX12_byteAt (hs_R s) h.2.1 a1 a2 a3 (hs_I s)
  rw [← h.1.gm] at e
  exact rf_d (P := fun q => q.2 285 2 = hs_I s 285 2 ∧ q.2 312 = hs_I s 312) h e (r_byteAt hr a1 a2 a3)
theorem f_handler {s : hs_S} (h : CJ s) (hr : RJ (hs_I s)) (a1 a2 a3 a4 : Int32) : Tq (fX12_handler 285 a1 a2 a3 a4 s) (fun q => rP s q.2 ∧ hs_I q.2 285 2 = hs_I s 285 2 ∧ hs_I q.2 312 = hs_I s 312) := by
  have e := tX12_handler (hs_R s) h.2.1 a1 a2 a3 a4 (hs_I s)
  rw [← h.1.gm] at e
  exact rf_d (P := fun q => q.2 285 2 = hs_I s 285 2 ∧ q.2 312 = hs_I s 312) h e (r_handler hr a1 a2 a3 a4)
theorem f_block {s : hs_S} (h : CJ s) (hr : RJ (hs_I s)) (a1 a2 a3 : Int32) : Tq (fX12_block 285 a1 a2 a3 s) (fun q => rP s q.2 ∧ hs_I q.2 285 2 = hs_I s 285 2 ∧ hs_I q.2 312 = hs_I s 312) := by
  have e := tX12_block (hs_R s) h.2.1 a1 a2 a3 (hs_I s)
  rw [← h.1.gm] at e
  exact rf_d (P := fun q => q.2 285 2 = hs_I s 285 2 ∧ q.2 312 = hs_I s 312) h e (r_block hr a1 a2 a3)
theorem f_run {s : hs_S} (h : CJ s) (hr : RJ (hs_I s)) (a1 a2 a3 a4 : Int32) : Tq (fX12_run 285 a1 a2 a3 a4 s) (fun q => rP s q.2 ∧ hs_I q.2 285 2 = hs_I s 285 2 ∧ hs_I q.2 312 = hs_I s 312) := by
  have e := tX12_run (hs_R s) h.2.1 a1 a2 a3 a4 (hs_I s)
  rw [← h.1.gm] at e
  exact rf_d (P := fun q => q.2 285 2 = hs_I s 285 2 ∧ q.2 312 = hs_I s 312) h e (r_run hr a1 a2 a3 a4)
theorem f_answer {s : hs_S} (h : CJ s) (hr : RJ (hs_I s)) : Tq (fX12_answer 285 s) (fun q => rP s q.2 ∧ hs_I q.2 285 2 = hs_I s 285 2 ∧ hs_I q.2 312 = hs_I s 312) := by
  have e := tX12_answer (hs_R s) h.2.1 (hs_I s)
  rw [← h.1.gm] at e
  exact rf_d (P := fun q => q.2 285 2 = hs_I s 285 2 ∧ q.2 312 = hs_I s 312) h e (r_answer hr)
theorem f_counted {s : hs_S} (h : CJ s) (hr : RJ (hs_I s)) : Tq (fX12_counted 285 s) (fun q => rP s q.2 ∧ hs_I q.2 285 2 = hs_I s 285 2 ∧ hs_I q.2 312 = hs_I s 312) := by
  have e := tX12_counted (hs_R s) h.2.1 (hs_I s)
  rw [← h.1.gm] at e
  exact rf_d (P := fun q => q.2 285 2 = hs_I s 285 2 ∧ q.2 312 = hs_I s 312) h e (r_counted hr)
theorem f_steps {s : hs_S} (h : CJ s) (hr : RJ (hs_I s)) : Tq (fX12_steps 285 s) (fun q => rP s q.2 ∧ hs_I q.2 285 2 = hs_I s 285 2 ∧ hs_I q.2 312 = hs_I s 312) := by
  have e := tX12_steps (hs_R s) h.2.1 (hs_I s)
  rw [← h.1.gm] at e
  exact rf_d (P := fun q => q.2 285 2 = hs_I s 285 2 ∧ q.2 312 = hs_I s 312) h e (r_steps hr)
theorem f_element {s : hs_S} (h : CJ s) (hr : RJ (hs_I s)) (a1 a2 : Int32) : Tq (fX12_element 285 a1 a2 s) (fun q => rP s q.2 ∧ hs_I q.2 285 2 = hs_I s 285 2 ∧ hs_I q.2 312 = hs_I s 312) := by
  have e := tX12_element (hs_R s) h.2.1 a1 a2 (hs_I s)
  rw [← h.1.gm] at e
  exact rf_d (P := fun q => q.2 285 2 = hs_I s 285 2 ∧ q.2 312 = hs_I s 312) h e (r_element hr a1 a2)
theorem f_unwrite {s : hs_S} (h : CJ s) (hr : RJ (hs_I s)) : Tq (fX12_unwrite 285 s) (fun q => rP s q.2 ∧ hs_I q.2 285 2 = hs_I s 285 2 ∧ hs_I q.2 312 = hs_I s 312) := by
  have e := tX12_unwrite (hs_R s) h.2.1 (hs_I s)
  rw [← h.1.gm] at e
  exact rf_d (P := fun q => q.2 285 2 = hs_I s 285 2 ∧ q.2 312 = hs_I s 312) h e (r_unwrite hr)
theorem f_clear {s : hs_S} (h : CJ s) (hr : RJ (hs_I s)) : Tq (fX12_clear 285 s) (fun q => rP s q ∧ hs_I q 285 2 = 0 ∧ s_Pr (hs_I q) s_p0) := by
  have e := tX12_clear (hs_R s) h.2.1 (hs_I s)
  rw [← h.1.gm] at e
  exact rf_v (P := fun q => q 285 2 = 0 ∧ s_Pr q s_p0) h e (r_clear hr)
/-- the calls of the class that change nothing -/
theorem cC.rf {s : hs_S} (h : CJ s) : cC s s := ⟨h, fun _ _ => rfl, rfl⟩
theorem z_ro {s : hs_S} (h : CJ s) {x : Option (Int32 × hs_S)} (hx : Tq x (Zr s tt)) : Tq x (fun q => cC s q.2 ∧ hs_I q.2 90 = hs_I s 90 ∧ tU q.2 = tU s) := hx.mono fun q hq => by
  rw [hq.1]; exact ⟨cC.rf h, rfl, rfl⟩
theorem RJ.cl {s q : hs_S} (h : RJ (hs_I s)) (c : cC s q) : RJ (hs_I q) := h.to (fun j _ => by rw [c.2.1 285 (by omega)]) (fun a ha => c.2.1 a (by omega))
