/-! the pure part: UNLIKE keeps the relation -/
section F
variable {N m : Nat} {bk : Int} {t : Int → Nat} {sp : Nat} {σ σm : St}
theorem gl_unlike (h : InvR m bk t sp σ σm) {a b c : Int} (ha : wr a = a) (hb : wr b = b) (hc : c = 0 ∨ c = 1) (hN : 4000000 < N) : Ok (f_X11_unlike N σ 1 a b c) (fun v => Ok (f_X12_unlike N σm 1 a b c) (fun w => wr v.2 = wr w.2 ∧ InvR m bk t sp v.1 w.1 ∧ v.1.2.2 = σ.2.2 ∧ v.1.2.1 3 = σ.2.1 3)) := by
  refine ok2_mono (op_unlike (N := N) h.1.1 h.1.2 (h.2.2.2.2.2.2.2.1.norm) (IUnl.norm h.2.2.2.2.2.2.2.2.1) ha hb hc (by omega)) fun v w q => ⟨q.1, ?_⟩
  have f : FX [65, 44, 45, 50, 51, 56, 57, 62, 63] σ v.1 := q.2.1.mono (fun x hx => by
    have hTa := nT_T (fun i x y => (h.2.2.2.2.2.2.2.1.1.1 i x y).1) a
    have hTb := nT_T (fun i x y => (h.2.2.2.2.2.2.2.1.1.1 i x y).1) b
    unfold isT at hTa hTb
    simp only [List.mem_cons, List.not_mem_nil, or_false] at hx ⊢
    omega)
  exact ⟨h.fr f q.2.2.1 (.inr (by decide)) (by decide) (.inr (by decide)) (.inr (by decide)) (.inr (by decide)) (.inr (by decide)) (by decide) (.inl (IUnl.unn q.2.2.2)) (.inr (by decide)), f.2.1, f.2.2 3 (by decide)⟩
end F
