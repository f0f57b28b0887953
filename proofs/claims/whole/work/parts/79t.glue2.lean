/-! the pure part: each call keeps the relation (written by gen_glue.py) -/
theorem ok2_mono {α β : Type} {px : Option α} {pm : Option β} {P Q : α → β → Prop} (h : Ok px (fun v => Ok pm (P v))) (k : ∀ v w, P v w → Q v w) : Ok px (fun v => Ok pm (Q v)) := ok_mono h fun v hv => ok_mono hv fun w hw => k v w hw
theorem tt_in {t x : Nat} (h : isT t) (q : x = t + 4 ∨ x = t + 5) : x ∈ [44, 45, 50, 51, 56, 57, 62, 63] := by
  unfold isT at h
  simp
  omega
theorem stg_lk {σ σm τ τm : St} (h : IStg σ σm) (l : Lk σ τ) (g : FM [51] [] σm τm) : IStg τ τm := by
  obtain ⟨_, ⟨l0, l1, l2⟩, l3, l4⟩ := l
  unfold IStg at h ⊢
  rw [l0, l1, l2, l3, l4, show fI τm 1 91 = fI σm 1 91 from g.f (by decide), show fI τm 1 92 = fI σm 1 92 from g.f (by decide), show fI τm 1 93 = fI σm 1 93 from g.f (by decide), g.2.2.1 49 (by decide) (by decide), g.2.2.1 50 (by decide) (by decide)]
  exact h
def nT (t : Int → Nat) (i : Int) : Nat := if 0 ≤ i ∧ i < 3 then t i else 40
theorem nT_eq {t : Int → Nat} {i : Int} (h : 0 ≤ i ∧ i < 3) : nT t i = t i := if_pos h
theorem nT_T {t : Int → Nat} (h : ∀ i : Int, 0 ≤ i → i < 3 → isT (t i)) (i : Int) : isT (nT t i) := by
  unfold nT
  split
  · exact h i (by omega) (by omega)
  · exact .inl rfl
theorem ITre.norm {t : Int → Nat} {sp : Nat} {σ σm : St} (h : ITre t sp σ σm) : ITre (nT t) sp σ σm := by
  obtain ⟨⟨h1, h2⟩, h3, h4, h5, h6⟩ := h
  refine ⟨⟨fun i x y => ?_, fun i x y => ?_⟩, fun i x y => ?_, h4, fun i x y => ?_, ?_⟩
  · rw [nT_eq ⟨x, y⟩]; exact h1 i x y
  · rw [nT_eq ⟨x, y⟩]; exact h2 i x y
  · rw [nT_eq ⟨x, y⟩]; exact h3 i x y
  · rw [nT_eq ⟨x, y⟩]; exact h5 i x y
  · rw [nT_eq (by decide), nT_eq (by decide), nT_eq (by decide)]; exact h6
theorem IUnl.norm {t : Int → Nat} {σ : St} (h : IUnl t σ) : IUnl (nT t) σ := fun a b x y => by
  rw [nT_eq (by omega), nT_eq (by omega)]; exact h a b x y
theorem IUnl.unn {t : Int → Nat} {σ : St} (h : IUnl (nT t) σ) : IUnl t σ := fun a b x y => by
  have := h a b x y
  rw [nT_eq (by omega), nT_eq (by omega)] at this; exact this
section F
variable {N m : Nat} {bk : Int} {t : Int → Nat} {sp : Nat} {σ σm : St}
theorem gl_feed (h : InvR m bk t sp σ σm) {a : Int} (ha : wr a = a) {b : Int} (hb : wr b = b) {c : Int} (hc : wr c = c) {d : Int} (hd : wr d = d) {e : Int} (he : wr e = e) (hN : 4000000 < N) : Ok (f_X11_feed N σ 1 a b c d e) (fun v => Ok (f_X12_feed N σm 1 a b c d e) (fun w => wr v.2 = wr w.2 ∧ InvR m bk t sp v.1 w.1 ∧ v.1.2.2 = σ.2.2 ∧ v.1.2.1 3 = σ.2.1 3)) := by
  refine ok2_mono (op_feed (N := N) h.1.1 h.1.2 h.2.1  (by omega)) fun v w q => ⟨q.1, ?_⟩
  have f : FX [2, 4] σ v.1 := q.2.1
  exact ⟨h.fr f q.2.2.1 (.inl (q.2.2.2)) (by decide) (.inr (by decide)) (.inr (by decide)) (.inr (by decide)) (.inr (by decide)) (by decide) (.inr (by decide)) (.inr (by decide)), f.2.1, f.2.2 3 (by decide)⟩
theorem gl_end (h : InvR m bk t sp σ σm) {a : Int} (ha : wr a = a) (hN : 4000000 < N) : Ok (f_X11_end N σ 1 a) (fun v => Ok (f_X12_end N σm 1 a) (fun w => wr v.2 = wr w.2 ∧ InvR m bk t sp v.1 w.1 ∧ v.1.2.2 = σ.2.2 ∧ v.1.2.1 3 = σ.2.1 3)) := by
  refine ok2_mono (op_end (N := N) h.1.1 h.1.2 h.2.1 ha) fun v w q => ⟨q.1, ?_⟩
  have f : FX [2] σ v.1 := q.2.1
  exact ⟨h.fr f q.2.2.1 (.inl (q.2.2.2)) (by decide) (.inr (by decide)) (.inr (by decide)) (.inr (by decide)) (.inr (by decide)) (by decide) (.inr (by decide)) (.inr (by decide)), f.2.1, f.2.2 3 (by decide)⟩
theorem gl_fault (h : InvR m bk t sp σ σm) {a : Int} (ha : wr a = a) (hN : 4000000 < N) : Ok (f_X11_fault N σ 1 a) (fun v => Ok (f_X12_fault N σm 1 a) (fun w => wr v.2 = wr w.2 ∧ InvR m bk t sp v.1 w.1 ∧ v.1.2.2 = σ.2.2 ∧ v.1.2.1 3 = σ.2.1 3)) := by
  refine ok2_mono (op_fault (N := N) h.1.1 h.1.2 h.2.1 ha) fun v w q => ⟨q.1, ?_⟩
  rw [q.2.1, q.2.2]
  exact ⟨h, rfl, rfl⟩
theorem gl_mm (h : InvR m bk t sp σ σm) {a : Int} (ha : wr a = a) {b : Int} (hb : wr b = b) (hN : 4000000 < N) : Ok (f_X11_mm N σ 1 a b) (fun v => Ok (f_X12_mm N σm 1 a b) (fun w => wr v.2 = wr w.2 ∧ InvR m bk t sp v.1 w.1 ∧ v.1.2.2 = σ.2.2 ∧ v.1.2.1 3 = σ.2.1 3)) := by
  refine ok2_mono (op_mm (N := N) h.1.1 h.1.2 h.2.2.1 ha hb) fun v w q => ⟨q.1, ?_⟩
  rw [q.2.1, q.2.2]
  exact ⟨h, rfl, rfl⟩
theorem gl_clash (h : InvR m bk t sp σ σm) {a : Int} (ha : wr a = a) (hN : 4000000 < N) : Ok (f_X11_clash N σ 1 a) (fun v => Ok (f_X12_clash N σm 1 a) (fun w => wr v.2 = wr w.2 ∧ InvR m bk t sp v.1 w.1 ∧ v.1.2.2 = σ.2.2 ∧ v.1.2.1 3 = σ.2.1 3)) := by
  refine ok2_mono (op_clash (N := N) h.1.1 h.1.2 h.2.2.1 ha (by omega)) fun v w q => ⟨q.1, ?_⟩
  rw [q.2.1, q.2.2]
  exact ⟨h, rfl, rfl⟩
theorem gl_breaks (h : InvR m bk t sp σ σm) {a : Int} (ha : wr a = a) (hN : 4000000 < N) : Ok (f_X11_breaks N σ 1 a) (fun v => Ok (f_X12_breaks N σm 1 a) (fun w => wr v.2 = wr w.2 ∧ InvR m bk t sp v.1 w.1 ∧ v.1.2.2 = σ.2.2 ∧ v.1.2.1 3 = σ.2.1 3)) := by
  refine ok2_mono (op_breaks (N := N) h.1.1 h.1.2 h.2.2.1 ha (by omega)) fun v w q => ⟨q.1, ?_⟩
  rw [q.2.1, q.2.2]
  exact ⟨h, rfl, rfl⟩
theorem gl_mend (h : InvR m bk t sp σ σm) {a : Int} (ha : wr a = a) (hN : 4000000 < N) : Ok (f_X11_mend N σ 1 a) (fun v => Ok (f_X12_mend N σm 1 a) (fun w => wr v.2 = wr w.2 ∧ InvR m bk t sp v.1 w.1 ∧ v.1.2.2 = σ.2.2 ∧ v.1.2.1 3 = σ.2.1 3)) := by
  refine ok2_mono (op_mend (N := N) h.1.1 h.1.2 h.2.2.1 ha (by omega)) fun v w q => ⟨q.1, ?_⟩
  have f : FX [38] σ v.1 := q.2.1
  exact ⟨h.fr f q.2.2 (.inr (by decide)) (by decide) (.inr (by decide)) (.inr (by decide)) (.inr (by decide)) (.inr (by decide)) (by decide) (.inr (by decide)) (.inr (by decide)), f.2.1, f.2.2 3 (by decide)⟩
theorem gl_change (h : InvR m bk t sp σ σm) {a : Int} (ha : wr a = a) {b : Int} (hb : wr b = b) (hN : 4000000 < N) : Ok (f_X11_change N σ 1 a b) (fun v => Ok (f_X12_change N σm 1 a b) (fun w => wr v.2 = wr w.2 ∧ InvR m bk t sp v.1 w.1 ∧ v.1.2.2 = σ.2.2 ∧ v.1.2.1 3 = σ.2.1 3)) := by
  refine ok2_mono (op_change (N := N) h.1.1 h.1.2 h.2.2.1 h.2.2.2.1 ha hb) fun v w q => ⟨q.1, ?_⟩
  have f : FX [66, 67, 68, 69, 70, 71] σ v.1 := q.2.1
  exact ⟨h.fr f q.2.2.1 (.inr (by decide)) (by decide) (.inl (q.2.2.2)) (.inr (by decide)) (.inr (by decide)) (.inr (by decide)) (by decide) (.inr (by decide)) (.inr (by decide)), f.2.1, f.2.2 3 (by decide)⟩
theorem gl_estimate (h : InvR m bk t sp σ σm) {a : Int} (ha : wr a = a) {b : Int} (hb : wr b = b) (hN : 4000000 < N) : Ok (f_X11_estimate N σ 1 a b) (fun v => Ok (f_X12_estimate N σm 1 a b) (fun w => wr v.2 = wr w.2 ∧ InvR m bk t sp v.1 w.1 ∧ v.1.2.2 = σ.2.2 ∧ v.1.2.1 3 = σ.2.1 3)) := by
  refine ok2_mono (op_estimate (N := N) h.1.1 h.1.2 h.2.2.2.1 ha hb) fun v w q => ⟨q.1, ?_⟩
  have f : FX [66, 67, 68, 69, 70, 71] σ v.1 := q.2.1
  exact ⟨h.fr f q.2.2.1 (.inr (by decide)) (by decide) (.inl (q.2.2.2)) (.inr (by decide)) (.inr (by decide)) (.inr (by decide)) (by decide) (.inr (by decide)) (.inr (by decide)), f.2.1, f.2.2 3 (by decide)⟩
theorem gl_show (h : InvR m bk t sp σ σm) {a : Int} (ha : wr a = a) {b : Int} (hb : wr b = b) (hN : 4000000 < N) : Ok (f_X11_show N σ 1 a b) (fun v => Ok (f_X12_show N σm 1 a b) (fun w => wr v.2 = wr w.2 ∧ InvR m bk t sp v.1 w.1 ∧ v.1.2.2 = σ.2.2 ∧ v.1.2.1 3 = σ.2.1 3)) := by
  refine ok2_mono (op_show (N := N) h.1.1 h.1.2 h.2.2.2.1 ha hb) fun v w q => ⟨q.1, ?_⟩
  have f : FX [66, 67, 68, 69, 70, 71] σ v.1 := q.2.1
  exact ⟨h.fr f q.2.2.1 (.inr (by decide)) (by decide) (.inl (q.2.2.2)) (.inr (by decide)) (.inr (by decide)) (.inr (by decide)) (by decide) (.inr (by decide)) (.inr (by decide)), f.2.1, f.2.2 3 (by decide)⟩
theorem gl_untell (h : InvR m bk t sp σ σm) {a : Int} (ha : wr a = a) (hN : 4000000 < N) : Ok (f_X11_untell N σ 1 a) (fun v => Ok (f_X12_untell N σm 1 a) (fun w => wr v.2 = wr w.2 ∧ InvR m bk t sp v.1 w.1 ∧ v.1.2.2 = σ.2.2 ∧ v.1.2.1 3 = σ.2.1 3)) := by
  refine ok2_mono (op_untell (N := N) h.1.1 h.1.2 h.2.2.2.1 ha) fun v w q => ⟨q.1, ?_⟩
  have f : FX [71] σ v.1 := q.2.1
  exact ⟨h.fr f q.2.2.1 (.inr (by decide)) (by decide) (.inl (q.2.2.2)) (.inr (by decide)) (.inr (by decide)) (.inr (by decide)) (by decide) (.inr (by decide)) (.inr (by decide)), f.2.1, f.2.2 3 (by decide)⟩
theorem gl_later (h : InvR m bk t sp σ σm) {a : Int} (ha : wr a = a) (hN : 4000000 < N) : Ok (f_X11_later N σ 1 a) (fun v => Ok (f_X12_later N σm 1 a) (fun w => wr v.2 = wr w.2 ∧ InvR m bk t sp v.1 w.1 ∧ v.1.2.2 = σ.2.2 ∧ v.1.2.1 3 = σ.2.1 3)) := by
  refine ok2_mono (op_later (N := N) h.1.1 h.1.2 h.2.2.2.1 ha) fun v w q => ⟨q.1, ?_⟩
  have f : FX [66] σ v.1 := q.2.1
  exact ⟨h.fr f q.2.2.1 (.inr (by decide)) (by decide) (.inl (q.2.2.2)) (.inr (by decide)) (.inr (by decide)) (.inr (by decide)) (by decide) (.inr (by decide)) (.inr (by decide)), f.2.1, f.2.2 3 (by decide)⟩
theorem gl_moves (h : InvR m bk t sp σ σm) {a : Int} (ha : wr a = a) {b : Int} (hb : wr b = b) (hN : 4000000 < N) : Ok (f_X11_moves N σ 1 a b) (fun v => Ok (f_X12_moves N σm 1 a b) (fun w => wr v.2 = wr w.2 ∧ InvR m bk t sp v.1 w.1 ∧ v.1.2.2 = σ.2.2 ∧ v.1.2.1 3 = σ.2.1 3)) := by
  refine ok2_mono (op_moves (N := N) h.1.1 h.1.2 h.2.2.1 h.2.2.2.1 ha hb (by omega)) fun v w q => ⟨q.1, ?_⟩
  have f : FX [72] σ v.1 := q.2.1
  exact ⟨h.fr f q.2.2 (.inr (by decide)) (by decide) (.inr (by decide)) (.inr (by decide)) (.inr (by decide)) (.inr (by decide)) (by decide) (.inr (by decide)) (.inr (by decide)), f.2.1, f.2.2 3 (by decide)⟩
theorem gl_cost (h : InvR m bk t sp σ σm) {a : Int} (ha : wr a = a) {b : Int} (hb : wr b = b) (hN : 4000000 < N) : Ok (f_X11_cost N σ 1 a b) (fun v => Ok (f_X12_cost N σm 1 a b) (fun w => wr v.2 = wr w.2 ∧ InvR m bk t sp v.1 w.1 ∧ v.1.2.2 = σ.2.2 ∧ v.1.2.1 3 = σ.2.1 3)) := by
  refine ok2_mono (op_cost (N := N) h.1.1 h.1.2 h.2.2.1 h.2.2.2.1 ha hb (by omega)) fun v w q => ⟨q.1, ?_⟩
  have f : FX [72] σ v.1 := q.2.1
  exact ⟨h.fr f q.2.2 (.inr (by decide)) (by decide) (.inr (by decide)) (.inr (by decide)) (.inr (by decide)) (.inr (by decide)) (by decide) (.inr (by decide)) (.inr (by decide)), f.2.1, f.2.2 3 (by decide)⟩
theorem gl_over (h : InvR m bk t sp σ σm) {a : Int} (ha : wr a = a) {b : Int} (hb : wr b = b) (hN : 4000000 < N) : Ok (f_X11_over N σ 1 a b) (fun v => Ok (f_X12_over N σm 1 a b) (fun w => wr v.2 = wr w.2 ∧ InvR m bk t sp v.1 w.1 ∧ v.1.2.2 = σ.2.2 ∧ v.1.2.1 3 = σ.2.1 3)) := by
  refine ok2_mono (op_over (N := N) h.1.1 h.1.2 h.2.2.1 h.2.2.2.1 ha hb (by omega)) fun v w q => ⟨q.1, ?_⟩
  have f : FX [72] σ v.1 := q.2.1
  exact ⟨h.fr f q.2.2 (.inr (by decide)) (by decide) (.inr (by decide)) (.inr (by decide)) (.inr (by decide)) (.inr (by decide)) (by decide) (.inr (by decide)) (.inr (by decide)), f.2.1, f.2.2 3 (by decide)⟩
theorem gl_leave (h : InvR m bk t sp σ σm) {a : Int} (ha : wr a = a) {b : Int} (hb : wr b = b) {c : Int} (hc : wr c = c) (hN : 4000000 < N) : Ok (f_X11_leave N σ 1 a b c) (fun v => Ok (f_X12_leave N σm 1 a b c) (fun w => wr v.2 = wr w.2 ∧ InvR m bk t sp v.1 w.1 ∧ v.1.2.2 = σ.2.2 ∧ v.1.2.1 3 = σ.2.1 3)) := by
  refine ok2_mono (op_leave (N := N) h.1.1 h.1.2 h.2.2.1 h.2.2.2.1 (h.2.2.2.2.2.2.2.1.norm) ha hb hc (by omega)) fun v w q => ⟨q.1, ?_⟩
  have f : FX [72, 44, 45, 50, 51, 56, 57, 62, 63] σ v.1 := q.2.1.mono (fun x hx => by
    have hTb := nT_T (fun i x y => (h.2.2.2.2.2.2.2.1.1.1 i x y).1) b
    unfold isT at hTb
    simp only [List.mem_cons, List.not_mem_nil, or_false] at hx ⊢
    omega)
  exact ⟨h.fr f q.2.2 (.inr (by decide)) (by decide) (.inr (by decide)) (.inr (by decide)) (.inr (by decide)) (.inr (by decide)) (by decide) (.inr (by decide)) (.inr (by decide)), f.2.1, f.2.2 3 (by decide)⟩
theorem gl_pays (h : InvR m bk t sp σ σm) {a : Int} (ha : wr a = a) {b : Int} (hb : wr b = b) {c : Int} (hc : wr c = c) (hN : 4000000 < N) : Ok (f_X11_pays N σ 1 a b c) (fun v => Ok (f_X12_pays N σm 1 a b c) (fun w => wr v.2 = wr w.2 ∧ InvR m bk t sp v.1 w.1 ∧ v.1.2.2 = σ.2.2 ∧ v.1.2.1 3 = σ.2.1 3)) := by
  refine ok2_mono (op_pays (N := N) h.1.1 h.1.2 h.2.2.1 h.2.2.2.1 (h.2.2.2.2.2.2.2.1.norm) ha hb hc (by omega)) fun v w q => ⟨q.1, ?_⟩
  have f : FX [72, 44, 45, 50, 51, 56, 57, 62, 63] σ v.1 := q.2.1.mono (fun x hx => by
    have hTb := nT_T (fun i x y => (h.2.2.2.2.2.2.2.1.1.1 i x y).1) b
    unfold isT at hTb
    simp only [List.mem_cons, List.not_mem_nil, or_false] at hx ⊢
    omega)
  exact ⟨h.fr f q.2.2 (.inr (by decide)) (by decide) (.inr (by decide)) (.inr (by decide)) (.inr (by decide)) (.inr (by decide)) (by decide) (.inr (by decide)) (.inr (by decide)), f.2.1, f.2.2 3 (by decide)⟩
theorem gl_hold (h : InvR m bk t sp σ σm) {a : Int} (ha : wr a = a) {b : Int} (hb : wr b = b) {c : Int} (hc : wr c = c) (hN : 4000000 < N) : Ok (f_X11_hold N σ 1 a b c) (fun v => Ok (f_X12_hold N σm 1 a b c) (fun w => wr v.2 = wr w.2 ∧ InvR m bk t sp v.1 w.1 ∧ v.1.2.2 = σ.2.2 ∧ v.1.2.1 3 = σ.2.1 3)) := by
  refine ok2_mono (op_hold (N := N) h.1.1 h.1.2 h.2.2.2.2.1 h.2.2.2.1 (h.2.2.2.2.2.2.2.1.norm) ha hb hc (by omega)) fun v w q => ⟨q.1, ?_⟩
  have f : FX [103, 44, 45, 50, 51, 56, 57, 62, 63] σ v.1 := q.2.1.mono (fun x hx => by
    have hTb := nT_T (fun i x y => (h.2.2.2.2.2.2.2.1.1.1 i x y).1) b
    unfold isT at hTb
    simp only [List.mem_cons, List.not_mem_nil, or_false] at hx ⊢
    omega)
  exact ⟨h.fr f q.2.2 (.inr (by decide)) (by decide) (.inr (by decide)) (.inr (by decide)) (.inr (by decide)) (.inr (by decide)) (by decide) (.inr (by decide)) (.inr (by decide)), f.2.1, f.2.2 3 (by decide)⟩
theorem gl_lapse (h : InvR m bk t sp σ σm) {d : Int} (hd : wr d = d) {a : Int} (ha : wr a = a) {b : Int} (hb : wr b = b) {c : Int} (hc : wr c = c) (hN : 4000000 < N) : Ok (f_X11_lapse N σ 1 d a b c) (fun v => Ok (f_X12_lapse N σm 1 d a b c) (fun w => wr v.2 = wr w.2 ∧ InvR m bk t sp v.1 w.1 ∧ v.1.2.2 = σ.2.2 ∧ v.1.2.1 3 = σ.2.1 3)) := by
  refine ok2_mono (op_lapse (N := N) h.1.1 h.1.2 h.2.2.2.2.1 h.2.2.2.1 (h.2.2.2.2.2.2.2.1.norm) hd ha hb hc (by omega)) fun v w q => ⟨q.1, ?_⟩
  have f : FX [103, 44, 45, 50, 51, 56, 57, 62, 63] σ v.1 := q.2.1.mono (fun x hx => by
    have hTb := nT_T (fun i x y => (h.2.2.2.2.2.2.2.1.1.1 i x y).1) b
    unfold isT at hTb
    simp only [List.mem_cons, List.not_mem_nil, or_false] at hx ⊢
    omega)
  exact ⟨h.fr f q.2.2 (.inr (by decide)) (by decide) (.inr (by decide)) (.inr (by decide)) (.inr (by decide)) (.inr (by decide)) (by decide) (.inr (by decide)) (.inr (by decide)), f.2.1, f.2.2 3 (by decide)⟩
theorem gl_soonest (h : InvR m bk t sp σ σm) {a : Int} (ha : wr a = a) {b : Int} (hb : wr b = b) {c : Int} (hc : wr c = c) {d : Int} (hd : wr d = d) {e : Int} (he : wr e = e) {f : Int} (hf : wr f = f) (hN : 4000000 < N) : Ok (f_X11_soonest N σ 1 a b c d e f) (fun v => Ok (f_X12_soonest N σm 1 a b c d e f) (fun w => wr v.2 = wr w.2 ∧ InvR m bk t sp v.1 w.1 ∧ v.1.2.2 = σ.2.2 ∧ v.1.2.1 3 = σ.2.1 3)) := by
  refine ok2_mono (op_soonest (N := N) h.1.1 h.1.2 h.2.2.1 (h.2.2.2.2.2.2.2.1.norm) ha hb hc hd he hf (by omega)) fun v w q => ⟨q.1, ?_⟩
  have f : FX [93, 94, 96, 97, 98, 99, 44, 45, 50, 51, 56, 57, 62, 63] σ v.1 := q.2.1.mono (fun x hx => by
    have hTc := nT_T (fun i x y => (h.2.2.2.2.2.2.2.1.1.1 i x y).1) c
    unfold isT at hTc
    simp only [List.mem_cons, List.not_mem_nil, or_false] at hx ⊢
    omega)
  exact ⟨h.fr f q.2.2 (.inr (by decide)) (by decide) (.inr (by decide)) (.inr (by decide)) (.inr (by decide)) (.inr (by decide)) (by decide) (.inr (by decide)) (.inr (by decide)), f.2.1, f.2.2 3 (by decide)⟩
theorem gl_bounds (h : InvR m bk t sp σ σm) {a : Int} (ha : wr a = a) {b : Int} (hb : wr b = b) (hN : 4000000 < N) : Ok (f_X11_bounds N σ 1 a b) (fun v => Ok (f_X12_bounds N σm 1 a b) (fun w => wr v.2 = wr w.2 ∧ InvR m bk t sp v.1 w.1 ∧ v.1.2.2 = σ.2.2 ∧ v.1.2.1 3 = σ.2.1 3)) := by
  refine ok2_mono (op_bounds (N := N) h.1.1 h.1.2 h.2.2.2.2.2.1.1 ha hb) fun v w q => ⟨q.1, ?_⟩
  have f : FX [73, 74, 75] σ v.1 := q.2.1
  exact ⟨h.fr f q.2.2.1 (.inr (by decide)) (by decide) (.inr (by decide)) (.inr (by decide)) (.inl ⟨q.2.2.2.1, by rcases q.2.2.2.2 with e | e; rw [e]; exact h.2.2.2.2.2.1.2; exact .inl e⟩) (.inr (by decide)) (by decide) (.inr (by decide)) (.inr (by decide)), f.2.1, f.2.2 3 (by decide)⟩
theorem gl_land (h : InvR m bk t sp σ σm)  (hN : 4000000 < N) : Ok (f_X11_land N σ 1 ) (fun v => Ok (f_X12_land N σm 1 ) (fun w => wr v.2 = wr w.2 ∧ InvR m bk t sp v.1 w.1 ∧ v.1.2.2 = σ.2.2 ∧ v.1.2.1 3 = σ.2.1 3)) := by
  refine ok2_mono (op_land (N := N) h.1.1 h.1.2 h.2.2.2.2.2.1.1 ) fun v w q => ⟨q.1, ?_⟩
  have f : FX [73] σ v.1 := q.2.1
  exact ⟨h.fr f q.2.2.1 (.inr (by decide)) (by decide) (.inr (by decide)) (.inr (by decide)) (.inl ⟨q.2.2.2.1, .inl q.2.2.2.2⟩) (.inr (by decide)) (by decide) (.inr (by decide)) (.inr (by decide)), f.2.1, f.2.2 3 (by decide)⟩
theorem gl_pump (h : InvR m bk t sp σ σm) {a : Int} (ha : wr a = a) (hN : 4000000 < N) : Ok (f_X11_pump N σ 1 a) (fun v => Ok (f_X12_pump N σm 1 a) (fun w => wr v.2 = wr w.2 ∧ InvR m bk t sp v.1 w.1 ∧ v.1.2.2 = σ.2.2 ∧ v.1.2.1 3 = σ.2.1 3)) := by
  refine ok2_mono (op_pump (N := N) h.1.1 h.1.2 h.2.2.2.2.2.1.1 ha) fun v w q => ⟨q.1, ?_⟩
  have f : FX [73] σ v.1 := q.2.1
  exact ⟨h.fr f q.2.2.1 (.inr (by decide)) (by decide) (.inr (by decide)) (.inr (by decide)) (.inl ⟨q.2.2.2.1, by rcases q.2.2.2.2 with e | e; rw [e]; exact h.2.2.2.2.2.1.2; exact .inl e⟩) (.inr (by decide)) (by decide) (.inr (by decide)) (.inr (by decide)), f.2.1, f.2.2 3 (by decide)⟩
theorem gl_stage (h : InvR m bk t sp σ σm) {a : Int} (ha : wr a = a) {b : Int} (hb : wr b = b) (hN : 4000000 < N) : Ok (f_X11_stage N σ 1 a b) (fun v => Ok (f_X12_stage N σm 1 a b) (fun w => wr v.2 = wr w.2 ∧ InvR m bk t sp v.1 w.1 ∧ v.1.2.2 = σ.2.2 ∧ v.1.2.1 3 = σ.2.1 3)) := by
  refine ok2_mono (op_stage (N := N) h.1.1 h.1.2 h.2.2.2.2.2.2.1.1 ha hb) fun v w q => ⟨q.1, ?_⟩
  have f : FX [108, 109, 110] σ v.1 := q.2.1
  exact ⟨h.fr f q.2.2.1 (.inr (by decide)) (by decide) (.inr (by decide)) (.inr (by decide)) (.inr (by decide)) (.inl ⟨q.2.2.2.1, by rcases q.2.2.2.2 with e | e; rw [e]; exact h.2.2.2.2.2.2.1.2; exact (.inl e)⟩) (by decide) (.inr (by decide)) (.inr (by decide)), f.2.1, f.2.2 3 (by decide)⟩
theorem gl_grant (h : InvR m bk t sp σ σm) {a : Int} (ha : wr a = a) {b : Int} (hb : wr b = b) (hN : 4000000 < N) : Ok (f_X11_grant N σ 1 a b) (fun v => Ok (f_X12_grant N σm 1 a b) (fun w => wr v.2 = wr w.2 ∧ InvR m bk t sp v.1 w.1 ∧ v.1.2.2 = σ.2.2 ∧ v.1.2.1 3 = σ.2.1 3)) := by
  refine ok2_mono (op_grant (N := N) h.1.1 h.1.2 h.2.2.2.2.2.2.1.1 ha hb) fun v w q => ⟨q.1, ?_⟩
  have f : FX [108] σ v.1 := q.2.1
  exact ⟨h.fr f q.2.2.1 (.inr (by decide)) (by decide) (.inr (by decide)) (.inr (by decide)) (.inr (by decide)) (.inl ⟨q.2.2.2.1, by rcases q.2.2.2.2 with e | e; rw [e]; exact h.2.2.2.2.2.2.1.2; exact (.inl e)⟩) (by decide) (.inr (by decide)) (.inr (by decide)), f.2.1, f.2.2 3 (by decide)⟩
theorem gl_airline (h : InvR m bk t sp σ σm) {a : Int} (ha : wr a = a) {b : Int} (hb : wr b = b) (hN : 4000000 < N) : Ok (f_X11_airline N σ 1 a b) (fun v => Ok (f_X12_airline N σm 1 a b) (fun w => wr v.2 = wr w.2 ∧ InvR m bk t sp v.1 w.1 ∧ v.1.2.2 = σ.2.2 ∧ v.1.2.1 3 = σ.2.1 3)) := by
  refine ok2_mono (op_airline (N := N) h.1.1 h.1.2 h.2.2.2.2.1 ha hb) fun v w q => ⟨q.1, ?_⟩
  have f : FX [100, 101, 102] σ v.1 := q.2.1
  exact ⟨h.fr f q.2.2.1 (.inr (by decide)) (by decide) (.inr (by decide)) (.inl (q.2.2.2)) (.inr (by decide)) (.inr (by decide)) (by decide) (.inr (by decide)) (.inr (by decide)), f.2.1, f.2.2 3 (by decide)⟩
theorem gl_safe (h : InvR m bk t sp σ σm) {a : Int} (ha : wr a = a) {b : Int} (hb : wr b = b) {c : Int} (hc : wr c = c) (hN : 4000000 < N) : Ok (f_X11_safe N σ 1 a b c) (fun v => Ok (f_X12_safe N σm 1 a b c) (fun w => wr v.2 = wr w.2 ∧ InvR m bk t sp v.1 w.1 ∧ v.1.2.2 = σ.2.2 ∧ v.1.2.1 3 = σ.2.1 3)) := by
  refine ok2_mono (op_safe (N := N) h.1.1 h.1.2 h.2.2.2.2.2.2.1.1 h.2.2.2.2.2.2.1.2 ha hb hc (by omega)) fun v w q => ⟨q.1, ?_⟩
  have f : FX [108, 112, 113] σ v.1 := q.2.1
  exact ⟨h.fr f q.2.2.1 (.inr (by decide)) (by decide) (.inr (by decide)) (.inr (by decide)) (.inr (by decide)) (.inl ⟨stg_lk h.2.2.2.2.2.2.1.1 q.2.2.2.1 q.2.2.1, q.2.2.2.2⟩) (by decide) (.inr (by decide)) (.inr (by decide)), f.2.1, f.2.2 3 (by decide)⟩
theorem gl_bears (h : InvR m bk t sp σ σm) {a : Int} (ha : wr a = a) {b : Int} (hb : wr b = b) (hN : 4000000 < N) : Ok (f_X11_bears N σ 1 a b) (fun v => Ok (f_X12_bears N σm 1 a b) (fun w => wr v.2 = wr w.2 ∧ InvR m bk t sp v.1 w.1 ∧ v.1.2.2 = σ.2.2 ∧ v.1.2.1 3 = σ.2.1 3)) := by
  refine ok2_mono (op_bears (N := N) h.1.1 h.1.2 h.2.2.2.2.2.2.1.1 h.2.2.2.2.2.2.1.2 ha hb (by omega)) fun v w q => ⟨q.1, ?_⟩
  have f : FX [108, 112, 113] σ v.1 := q.2.1
  exact ⟨h.fr f q.2.2.1 (.inr (by decide)) (by decide) (.inr (by decide)) (.inr (by decide)) (.inr (by decide)) (.inl ⟨stg_lk h.2.2.2.2.2.2.1.1 q.2.2.2.1 q.2.2.1, q.2.2.2.2⟩) (by decide) (.inr (by decide)) (.inr (by decide)), f.2.1, f.2.2 3 (by decide)⟩
theorem gl_should (h : InvR m bk t sp σ σm) {a : Int} (ha : wr a = a) {b : Int} (hb : wr b = b) {c : Int} (hc : wr c = c) (hN : 4000000 < N) : Ok (f_X11_should N σ 1 a b c) (fun v => Ok (f_X12_should N σm 1 a b c) (fun w => wr v.2 = wr w.2 ∧ InvR m bk t sp v.1 w.1 ∧ v.1.2.2 = σ.2.2 ∧ v.1.2.1 3 = σ.2.1 3)) := by
  refine ok2_mono (op_should (N := N) h.1.1 h.1.2 h.2.2.2.2.2.2.1.1 h.2.2.2.2.2.2.1.2 ha hb hc (by omega)) fun v w q => ⟨q.1, ?_⟩
  have f : FX [108, 112, 113] σ v.1 := q.2.1
  exact ⟨h.fr f q.2.2.1 (.inr (by decide)) (by decide) (.inr (by decide)) (.inr (by decide)) (.inr (by decide)) (.inl ⟨stg_lk h.2.2.2.2.2.2.1.1 q.2.2.2.1 q.2.2.1, q.2.2.2.2⟩) (by decide) (.inr (by decide)) (.inr (by decide)), f.2.1, f.2.2 3 (by decide)⟩
theorem gl_shared (h : InvR m bk t sp σ σm) {a : Int} (ha : wr a = a) (hN : 4000000 < N) : Ok (f_X11_shared N σ 1 a) (fun v => Ok (f_X12_shared N σm 1 a) (fun w => wr v.2 = wr w.2 ∧ InvR m bk t sp v.1 w.1 ∧ v.1.2.2 = σ.2.2 ∧ v.1.2.1 3 = σ.2.1 3)) := by
  refine ok2_mono (op_shared (N := N) h.1.1 h.1.2 h.2.2.1 h.2.2.2.2.2.2.2.2.2 ha (by omega)) fun v w q => ⟨q.1, ?_⟩
  have f : FX [104, 105, 106, 107] σ v.1 := q.2.1
  exact ⟨h.fr f q.2.2.1 (.inr (by decide)) (by decide) (.inr (by decide)) (.inr (by decide)) (.inr (by decide)) (.inr (by decide)) (by decide) (.inr (by decide)) (.inl (q.2.2.2)), f.2.1, f.2.2 3 (by decide)⟩
theorem gl_maker (h : InvR m bk t sp σ σm) {a : Int} (ha : wr a = a) {b : Int} (hb : wr b = b) (hN : 4000000 < N) : Ok (f_X11_maker N σ 1 a b) (fun v => Ok (f_X12_maker N σm 1 a b) (fun w => wr v.2 = wr w.2 ∧ InvR m bk t sp v.1 w.1 ∧ v.1.2.2 = σ.2.2 ∧ v.1.2.1 3 = σ.2.1 3)) := by
  refine ok2_mono (op_maker (N := N) h.1.1 h.1.2 h.2.2.1 h.2.2.2.2.2.2.2.2.2 ha hb (by omega)) fun v w q => ⟨q.1, ?_⟩
  have f : FX [104, 105, 106, 107] σ v.1 := q.2.1
  exact ⟨h.fr f q.2.2.1 (.inr (by decide)) (by decide) (.inr (by decide)) (.inr (by decide)) (.inr (by decide)) (.inr (by decide)) (by decide) (.inr (by decide)) (.inl (q.2.2.2)), f.2.1, f.2.2 3 (by decide)⟩
theorem gl_plan (h : InvR m bk t sp σ σm) {a : Int} (ha : wr a = a) {b : Int} (hb : wr b = b) {c : Int} (hc : wr c = c) (hN : 4000000 < N) : Ok (f_X11_plan N σ 1 a b c) (fun v => Ok (f_X12_plan N σm 1 a b c) (fun w => wr v.2 = wr w.2 ∧ InvR m bk t sp v.1 w.1 ∧ v.1.2.2 = σ.2.2 ∧ v.1.2.1 3 = σ.2.1 3)) := by
  refine ok2_mono (op_plan (N := N) h.1.1 h.1.2 h.2.2.1 h.2.2.2.2.2.1.1 h.2.2.2.2.2.1.2 ha hb hc (by omega)) fun v w q => ⟨q.1, ?_⟩
  have f : FX cellsF σ v.1 := q.2.1
  exact ⟨h.fr f q.2.2.1 (.inr (by decide)) (by decide) (.inr (by decide)) (.inr (by decide)) (.inl (⟨q.2.2.2.2, q.2.2.2.1⟩)) (.inr (by decide)) (by decide) (.inr (by decide)) (.inr (by decide)), f.2.1, f.2.2 3 (by decide)⟩
theorem gl_move (h : InvR m bk t sp σ σm) {a : Int} (ha : wr a = a) {b : Int} (hb : wr b = b) {c : Int} (hc : wr c = c) {d : Int} (hd : wr d = d) (hN : 4000000 < N) : Ok (f_X11_move N σ 1 a b c d) (fun v => Ok (f_X12_move N σm 1 a b c d) (fun w => wr v.2 = wr w.2 ∧ InvR m bk t sp v.1 w.1 ∧ v.1.2.2 = σ.2.2 ∧ v.1.2.1 3 = σ.2.1 3)) := by
  refine ok2_mono (op_move (N := N) h.1.1 h.1.2 h.2.2.1 h.2.2.2.2.2.1.1 h.2.2.2.2.2.1.2 ha hb hc hd (by omega)) fun v w q => ⟨q.1, ?_⟩
  have f : FX cellsF σ v.1 := q.2.1
  exact ⟨h.fr f q.2.2.1 (.inr (by decide)) (by decide) (.inr (by decide)) (.inr (by decide)) (.inl (⟨q.2.2.2.2, q.2.2.2.1⟩)) (.inr (by decide)) (by decide) (.inr (by decide)) (.inr (by decide)), f.2.1, f.2.2 3 (by decide)⟩
theorem gl_about (h : InvR m bk t sp σ σm) {a : Int} (ha : wr a = a) (hN : 4000000 < N) : Ok (f_X11_about N σ 1 a) (fun v => Ok (f_X12_about N σm 1 a) (fun w => wr v.2 = wr w.2 ∧ InvR m bk t sp v.1 w.1 ∧ v.1.2.2 = σ.2.2 ∧ v.1.2.1 3 = σ.2.1 3)) := by
  refine ok2_mono (op_about (N := N) h.1.1 h.1.2 h.2.2.1 h.2.2.2.1 h.2.2.2.2.2.1.1 h.2.2.2.2.1 h.2.1 h.2.2.2.2.2.2.1.1 h.2.2.2.2.2.2.2.1.1 ha) fun v w q => ⟨q.1, ?_⟩
  rw [q.2.1, q.2.2]
  exact ⟨h, rfl, rfl⟩
end F
