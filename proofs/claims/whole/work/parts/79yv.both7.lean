/-! the pure part: a line of a machine, both sides together (6) -/
section F
variable {N : Nat} {σ τ υ σm τm w : St} {z : Zs} {r : RS} {m : Nat} {bk : Int}
/-- any line -/
theorem line2 {k : Int} (hz : Str z) (hm : isM m) (hk : bk = 0 ∨ bk = 1) (h : ML z m bk k σ σm) (kd : kZ z k ≠ 102) (hN : 2000 < N) : Ok (f_X3_readLine N σ m 2) (fun v => Ok (f_X12_readMachine N σm 1) (fun w => FA (CAf m) σ v.1 ∧ FA (RAf bk) σm w.1 ∧ ((∃ d, XR z (.inl d) v.1 ∧ MR z (.inl d) w.1) ∨ ∃ k', k < k' ∧ ML z m bk k' (uF v.1 m 0 (fI v.1 m 0 + 1)) w.1))) := by
  obtain ⟨⟨hx, hmr, hb⟩, ⟨⟨⟨l1, l2, l3⟩, ⟨p1, p2, p3⟩, ⟨j1, j2, j3⟩, ⟨v1, v2, v3⟩, ⟨t1, t2, t3⟩⟩, hp, hj, hv, ht, hg⟩, hnr, hto, hl⟩ := id h
  have rr : (0 ≤ fI σ m 1 ∧ fI σ m 1 ≤ 12) ∧ (0 ≤ fI σ m 7 ∧ fI σ m 7 ≤ 16) ∧ (0 ≤ fI σ m 11 ∧ fI σ m 11 ≤ 16) ∧ (0 ≤ fI σ m 15 ∧ fI σ m 15 ≤ 3) := ⟨⟨p2, p3⟩, ⟨j2, j3⟩, ⟨v2, v3⟩, t2, t3⟩
  refine lineX hz hm hx rfl rfl rfl rfl rr (fun bad τ xτ fτ => ?_) (fun good => ?_)
  · refine lineM hz hmr hb hk p1 j1 v1 t1 rr hN (fun _ w mw fw => ?_) (fun good => absurd good bad)
    exact ⟨fτ.fa fun _ => .inl rfl, (fw.mono (K := [4, 5, 6, 7, 8, 9, 10]) (fun _ h => h) (by simp)).fa (fun i q => .inl ⟨rfl, .inl q⟩) (fun j hj => .inl ⟨rfl, by simp at hj; omega⟩), .inl ⟨_, xτ, mw⟩⟩
  · rcases id good with ⟨q, g⟩ | ⟨q, g⟩ | ⟨q, g⟩ | ⟨q, g⟩ | q
    · obtain ⟨x, ex, Fx, rest⟩ := line_part (N := N) hz hm hk h q g hN
      refine ⟨x, .inl ⟨q, ex⟩, ?_⟩
      refine lineM hz hmr hb hk p1 j1 v1 t1 rr hN (fun bad => absurd good bad) (fun _ y my fy => ?_)
      obtain ⟨x', rx, ex', mx', bx', fin⟩ := rest y my fy
      exact ⟨x', rx, .inl ⟨q, ex'⟩, mx', bx', fun w mw Fw lw => ⟨Fx, (fin w mw Fw lw).1, (fin w mw Fw lw).2⟩⟩
    · obtain ⟨x, ex, Fx, rest⟩ := line_join (N := N) hz hm hk h q g hN
      refine ⟨x, .inr (.inl ⟨q, ex⟩), ?_⟩
      refine lineM hz hmr hb hk p1 j1 v1 t1 rr hN (fun bad => absurd good bad) (fun _ y my fy => ?_)
      obtain ⟨x', rx, ex', mx', bx', fin⟩ := rest y my fy
      exact ⟨x', rx, .inr (.inl ⟨q, ex'⟩), mx', bx', fun w mw Fw lw => ⟨Fx, (fin w mw Fw lw).1, (fin w mw Fw lw).2⟩⟩
    · obtain ⟨x, ex, Fx, rest⟩ := line_moves (N := N) hz hm hk h q g hN
      refine ⟨x, .inr (.inr (.inl ⟨q, ex⟩)), ?_⟩
      refine lineM hz hmr hb hk p1 j1 v1 t1 rr hN (fun bad => absurd good bad) (fun _ y my fy => ?_)
      obtain ⟨x', rx, ex', mx', bx', fin⟩ := rest y my fy
      exact ⟨x', rx, .inr (.inr (.inl ⟨q, ex'⟩)), mx', bx', fun w mw Fw lw => ⟨Fx, (fin w mw Fw lw).1, (fin w mw Fw lw).2⟩⟩
    · obtain ⟨x, ex, Fx, rest⟩ := line_tank (N := N) hz hm hk h q g hN
      refine ⟨x, .inr (.inr (.inr (.inl ⟨q, ex⟩))), ?_⟩
      refine lineM hz hmr hb hk p1 j1 v1 t1 rr hN (fun bad => absurd good bad) (fun _ y my fy => ?_)
      obtain ⟨x', rx, ex', mx', bx', fin⟩ := rest y my fy
      exact ⟨x', rx, .inr (.inr (.inr (.inl ⟨q, ex'⟩))), mx', bx', fun w mw Fw lw => ⟨Fx, (fin w mw Fw lw).1, (fin w mw Fw lw).2⟩⟩
    · obtain ⟨x, ex, Fx, rest⟩ := line_row (N := N) hz hm hk h q hN
      refine ⟨x, .inr (.inr (.inr (.inr (⟨q, ex⟩)))), ?_⟩
      refine lineM hz hmr hb hk p1 j1 v1 t1 rr hN (fun bad => absurd good bad) (fun _ y my fy => ?_)
      obtain ⟨x', rx, ex', mx', bx', fin⟩ := rest y my fy
      exact ⟨x', rx, .inr (.inr (.inr (.inr (⟨q, ex'⟩)))), mx', bx', fun w mw Fw lw => ⟨Fx, (fin w mw Fw lw).1, (fin w mw Fw lw).2⟩⟩
end F
