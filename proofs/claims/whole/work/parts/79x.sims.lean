/-! the pure part: the calls together (written by gen_sims.py) -/
def InvV (W : (Int → Int) → Prop) (σ σm : St) : Prop := ∃ (m : Nat) (bk : Int) (t : Int → Nat) (sp : Nat), InvR m bk t sp σ σm ∧ σ.2.2 1 ((2 : Nat) : Int) = 31 - m ∧ W (σ.2.1 3)
theorem NN_big : 4000000 < NN := by unfold NN; decide
theorem gl_to {W : (Int → Int) → Prop} {m : Nat} {bk : Int} {t : Int → Nat} {sp : Nat} {σ : St} {px pm : Option (St × Int)} (h2 : σ.2.2 1 ((2 : Nat) : Int) = 31 - m) (h3 : W (σ.2.1 3)) (h : Ok px (fun v => Ok pm (fun w => wr v.2 = wr w.2 ∧ InvR m bk t sp v.1 w.1 ∧ v.1.2.2 = σ.2.2 ∧ v.1.2.1 3 = σ.2.1 3))) : OK2 (InvV W) px pm := ok2_of (ok2_mono h fun v w q => ⟨q.1, m, bk, t, sp, q.2.1, by rw [q.2.2.1]; exact h2, by rw [q.2.2.2]; exact h3⟩)
theorem sims_of {W : (Int → Int) → Prop} (hmachine : (∀ σx σm : St, InvV W σx σm → OK2 (InvV W) (f_X11_machine NN σx 1) (f_X12_machine NN σm 1))) (htreaty : (∀ σx σm : St, InvV W σx σm → ∀ (a0 : Int), wr a0 = a0 → OK2 (InvV W) (f_X11_treaty NN σx 1 a0) (f_X12_treaty NN σm 1 a0))) : Sims (InvV W) NN := by
  refine ⟨?_, ?_, ?_, ?_, ?_, ?_, ?_, ?_, ?_, ?_, ?_, ?_, ?_, ?_, ?_, ?_, ?_, ?_, ?_, ?_, ?_, ?_, ?_, ?_, ?_, ?_, ?_, ?_, ?_, ?_, ?_, ?_, ?_, ?_, ?_, ?_, ?_⟩
  · exact fun σ σm h a0 a1 a2 a3 a4 qa0 qa1 qa2 qa3 qa4 => by
      obtain ⟨m, bk, t, sp, h1, h2, h3⟩ := h
      exact gl_to h2 h3 (gl_feed h1 qa0 qa1 qa2 qa3 qa4 NN_big)
  · exact fun σ σm h a0 qa0 => by
      obtain ⟨m, bk, t, sp, h1, h2, h3⟩ := h
      exact gl_to h2 h3 (gl_end h1 qa0 NN_big)
  · exact hmachine
  · exact htreaty
  · exact fun σ σm h a0 qa0 => by
      obtain ⟨m, bk, t, sp, h1, h2, h3⟩ := h
      exact gl_to h2 h3 (gl_fault h1 qa0 NN_big)
  · exact fun σ σm h a0 a1 qa0 qa1 => by
      obtain ⟨m, bk, t, sp, h1, h2, h3⟩ := h
      exact gl_to h2 h3 (gl_mm h1 qa0 qa1 NN_big)
  · exact fun σ σm h a0 qa0 => by
      obtain ⟨m, bk, t, sp, h1, h2, h3⟩ := h
      exact gl_to h2 h3 (gl_clash h1 qa0 NN_big)
  · exact fun σ σm h a0 qa0 => by
      obtain ⟨m, bk, t, sp, h1, h2, h3⟩ := h
      exact gl_to h2 h3 (gl_breaks h1 qa0 NN_big)
  · exact fun σ σm h a0 qa0 => by
      obtain ⟨m, bk, t, sp, h1, h2, h3⟩ := h
      exact gl_to h2 h3 (gl_mend h1 qa0 NN_big)
  · exact fun σ σm h a0 a1 a2 qa0 qa1 qa2 => by
      obtain ⟨m, bk, t, sp, h1, h2, h3⟩ := h
      exact gl_to h2 h3 (gl_unlike h1 qa0 qa1 qa2 NN_big)
  · exact fun σ σm h a0 a1 qa0 qa1 => by
      obtain ⟨m, bk, t, sp, h1, h2, h3⟩ := h
      exact gl_to h2 h3 (gl_change h1 qa0 qa1 NN_big)
  · exact fun σ σm h a0 a1 qa0 qa1 => by
      obtain ⟨m, bk, t, sp, h1, h2, h3⟩ := h
      exact gl_to h2 h3 (gl_estimate h1 qa0 qa1 NN_big)
  · exact fun σ σm h a0 a1 qa0 qa1 => by
      obtain ⟨m, bk, t, sp, h1, h2, h3⟩ := h
      exact gl_to h2 h3 (gl_show h1 qa0 qa1 NN_big)
  · exact fun σ σm h a0 qa0 => by
      obtain ⟨m, bk, t, sp, h1, h2, h3⟩ := h
      exact gl_to h2 h3 (gl_untell h1 qa0 NN_big)
  · exact fun σ σm h a0 qa0 => by
      obtain ⟨m, bk, t, sp, h1, h2, h3⟩ := h
      exact gl_to h2 h3 (gl_later h1 qa0 NN_big)
  · exact fun σ σm h a0 a1 qa0 qa1 => by
      obtain ⟨m, bk, t, sp, h1, h2, h3⟩ := h
      exact gl_to h2 h3 (gl_moves h1 qa0 qa1 NN_big)
  · exact fun σ σm h a0 a1 qa0 qa1 => by
      obtain ⟨m, bk, t, sp, h1, h2, h3⟩ := h
      exact gl_to h2 h3 (gl_cost h1 qa0 qa1 NN_big)
  · exact fun σ σm h a0 a1 a2 qa0 qa1 qa2 => by
      obtain ⟨m, bk, t, sp, h1, h2, h3⟩ := h
      exact gl_to h2 h3 (gl_pays h1 qa0 qa1 qa2 NN_big)
  · exact fun σ σm h a0 a1 qa0 qa1 => by
      obtain ⟨m, bk, t, sp, h1, h2, h3⟩ := h
      exact gl_to h2 h3 (gl_over h1 qa0 qa1 NN_big)
  · exact fun σ σm h a0 a1 a2 qa0 qa1 qa2 => by
      obtain ⟨m, bk, t, sp, h1, h2, h3⟩ := h
      exact gl_to h2 h3 (gl_leave h1 qa0 qa1 qa2 NN_big)
  · exact fun σ σm h a0 a1 qa0 qa1 => by
      obtain ⟨m, bk, t, sp, h1, h2, h3⟩ := h
      exact gl_to h2 h3 (gl_bounds h1 qa0 qa1 NN_big)
  · exact fun σ σm h   => by
      obtain ⟨m, bk, t, sp, h1, h2, h3⟩ := h
      exact gl_to h2 h3 (gl_land h1  NN_big)
  · exact fun σ σm h a0 qa0 => by
      obtain ⟨m, bk, t, sp, h1, h2, h3⟩ := h
      exact gl_to h2 h3 (gl_pump h1 qa0 NN_big)
  · exact fun σ σm h a0 a1 a2 qa0 qa1 qa2 => by
      obtain ⟨m, bk, t, sp, h1, h2, h3⟩ := h
      exact gl_to h2 h3 (gl_plan h1 qa0 qa1 qa2 NN_big)
  · exact fun σ σm h a0 a1 a2 a3 qa0 qa1 qa2 qa3 => by
      obtain ⟨m, bk, t, sp, h1, h2, h3⟩ := h
      exact gl_to h2 h3 (gl_move h1 qa0 qa1 qa2 qa3 NN_big)
  · exact fun σ σm h a0 a1 a2 a3 a4 a5 qa0 qa1 qa2 qa3 qa4 qa5 => by
      obtain ⟨m, bk, t, sp, h1, h2, h3⟩ := h
      exact gl_to h2 h3 (gl_soonest h1 qa0 qa1 qa2 qa3 qa4 qa5 NN_big)
  · exact fun σ σm h a0 a1 qa0 qa1 => by
      obtain ⟨m, bk, t, sp, h1, h2, h3⟩ := h
      exact gl_to h2 h3 (gl_airline h1 qa0 qa1 NN_big)
  · exact fun σ σm h a0 a1 a2 qa0 qa1 qa2 => by
      obtain ⟨m, bk, t, sp, h1, h2, h3⟩ := h
      exact gl_to h2 h3 (gl_hold h1 qa0 qa1 qa2 NN_big)
  · exact fun σ σm h a0 a1 a2 a3 qa0 qa1 qa2 qa3 => by
      obtain ⟨m, bk, t, sp, h1, h2, h3⟩ := h
      exact gl_to h2 h3 (gl_lapse h1 qa0 qa1 qa2 qa3 NN_big)
  · exact fun σ σm h a0 qa0 => by
      obtain ⟨m, bk, t, sp, h1, h2, h3⟩ := h
      exact gl_to h2 h3 (gl_shared h1 qa0 NN_big)
  · exact fun σ σm h a0 a1 qa0 qa1 => by
      obtain ⟨m, bk, t, sp, h1, h2, h3⟩ := h
      exact gl_to h2 h3 (gl_maker h1 qa0 qa1 NN_big)
  · exact fun σ σm h a0 a1 qa0 qa1 => by
      obtain ⟨m, bk, t, sp, h1, h2, h3⟩ := h
      exact gl_to h2 h3 (gl_stage h1 qa0 qa1 NN_big)
  · exact fun σ σm h a0 a1 qa0 qa1 => by
      obtain ⟨m, bk, t, sp, h1, h2, h3⟩ := h
      exact gl_to h2 h3 (gl_grant h1 qa0 qa1 NN_big)
  · exact fun σ σm h a0 a1 a2 qa0 qa1 qa2 => by
      obtain ⟨m, bk, t, sp, h1, h2, h3⟩ := h
      exact gl_to h2 h3 (gl_safe h1 qa0 qa1 qa2 NN_big)
  · exact fun σ σm h a0 a1 qa0 qa1 => by
      obtain ⟨m, bk, t, sp, h1, h2, h3⟩ := h
      exact gl_to h2 h3 (gl_bears h1 qa0 qa1 NN_big)
  · exact fun σ σm h a0 a1 a2 qa0 qa1 qa2 => by
      obtain ⟨m, bk, t, sp, h1, h2, h3⟩ := h
      exact gl_to h2 h3 (gl_should h1 qa0 qa1 qa2 NN_big)
  · exact fun σ σm h a0 qa0 => by
      obtain ⟨m, bk, t, sp, h1, h2, h3⟩ := h
      exact gl_to h2 h3 (gl_about h1 qa0 NN_big)
