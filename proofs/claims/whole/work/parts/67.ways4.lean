/-! the pure part: WAYS, the reference's search; soonest -/
section W
variable {N : Nat} {σ σm : St}
theorem Ls.iff {fs sl : Int → Int} {fr far : Int} {S S' : Int → Int → Int → Prop} {f e T : Int} (tr : ∀ v, Ct fs sl fr S f e v ↔ Ct fs sl fr S' f e v) (a : Ls fs sl fr far S f e T) : Ls fs sl fr far S' f e T := by
  rcases a with ⟨a1, a2⟩ | ⟨a1, a2⟩
  · exact .inl ⟨a1, fun v h => a2 v ((tr v).mpr h)⟩
  · exact .inr ⟨(tr _).mp a1, fun v h => a2 v ((tr v).mpr h)⟩
def addS (S : Int → Int → Int → Prop) (c b e : Int) : Int → Int → Int → Prop := fun n g x => S n g x ∨ (n = c ∧ g = b ∧ x = e)
/-- the table when one has entered -/
theorem Tw.enter {fs sl : Int → Int} {fr most : Int} {S : Int → Int → Int → Prop} {υ φ : St} (hT : Tw fs sl fr most S υ) (hm : most ≤ 99) {e b c v : Int} (he : 0 ≤ e ∧ e ≤ 63) (hb : 0 ≤ b) (hn : nb c e) (hv : v = dd fs sl fr b.toNat c) (hv2 : v < 100000)
    (hφ : ∀ x, φ.2.1 43 x = if x = 100 * e + b + 3 ∧ (fs e ≠ 0 ∧ b + 3 ≤ most) ∧ v + 1 < υ.2.1 43 x then v + 1 else if x = 100 * e + b + 2 ∧ (sl e ≠ 0 ∧ b + 2 ≤ most) ∧ v + 3 < υ.2.1 43 x then v + 3 else υ.2.1 43 x) : Tw fs sl fr most (addS S c b e) φ := by
  intro e' f' he' hf'
  obtain ⟨t1, t2⟩ := hT e' f' he' hf'
  have ct : ∀ val, Ct fs sl fr (addS S c b e) f' e' val ↔ (Ct fs sl fr S f' e' val ∨ (e' = e ∧ ((f' = b + 3 ∧ fs e ≠ 0 ∧ val = v + 1) ∨ (f' = b + 2 ∧ sl e ≠ 0 ∧ val = v + 3)))) := fun val => by
    constructor
    · rintro ⟨n, hn', ⟨q1, q2, q3, q4, q5⟩ | ⟨q1, q2, q3, q4, q5⟩⟩
      · rcases q3 with q3 | ⟨k1, k2, k3⟩
        · exact .inl ⟨n, hn', .inl ⟨q1, q2, q3, q4, q5⟩⟩
        · refine .inr ⟨k3, .inl ⟨by omega, by rw [← k3]; exact q1, ?_⟩⟩
          rw [q5, k2, k1, ← hv]
      · rcases q3 with q3 | ⟨k1, k2, k3⟩
        · exact .inl ⟨n, hn', .inr ⟨q1, q2, q3, q4, q5⟩⟩
        · refine .inr ⟨k3, .inr ⟨by omega, by rw [← k3]; exact q1, ?_⟩⟩
          rw [q5, k2, k1, ← hv]
    · rintro (⟨n, hn', ⟨q1, q2, q3, q4⟩ | ⟨q1, q2, q3, q4⟩⟩ | ⟨k1, ⟨k2, k3, k4⟩ | ⟨k2, k3, k4⟩⟩)
      · exact ⟨n, hn', .inl ⟨q1, q2, .inl q3, q4⟩⟩
      · exact ⟨n, hn', .inr ⟨q1, q2, .inl q3, q4⟩⟩
      · subst k1
        have eb : f' - 3 = b := by omega
        refine ⟨c, hn, .inl ⟨k3, by omega, .inr ⟨rfl, eb, rfl⟩, ?_, ?_⟩⟩
        · rw [eb, ← hv]; exact hv2
        · rw [eb, ← hv]; exact k4
      · subst k1
        have eb : f' - 2 = b := by omega
        refine ⟨c, hn, .inr ⟨k3, by omega, .inr ⟨rfl, eb, rfl⟩, ?_, ?_⟩⟩
        · rw [eb, ← hv]; exact hv2
        · rw [eb, ← hv]; exact k4
  refine ⟨fun h0 => ?_, fun h1 h2 => ?_⟩
  · rw [hφ, if_neg (by omega), if_neg (by omega)]
    exact t1 h0
  · have t2' := t2 h1 h2
    rw [hφ]
    by_cases c3 : (e' = e ∧ f' = b + 3) ∧ fs e ≠ 0
    · obtain ⟨⟨rfl, rfl⟩, k3⟩ := c3
      have hx : 100 * e' + (b + 3) = 100 * e' + b + 3 := by omega
      have := t2'.more (S' := addS S c b e') (w := v + 1) (fun val => by
        rw [ct val]
        constructor
        · rintro (h | ⟨_, ⟨_, _, h⟩ | ⟨h, _⟩⟩)
          · exact .inl h
          · exact .inr h
          · omega
        · rintro (h | h)
          · exact .inl h
          · exact .inr ⟨rfl, .inl ⟨rfl, k3, h⟩⟩) (by omega)
      by_cases hlt : v + 1 < υ.2.1 43 (100 * e' + (b + 3))
      · rw [if_pos hlt] at this
        rw [if_pos ⟨hx, ⟨k3, by omega⟩, hlt⟩]; exact this
      · rw [if_neg hlt] at this
        rw [if_neg (fun q => hlt q.2.2), if_neg (by omega)]; exact this
    · by_cases c2 : (e' = e ∧ f' = b + 2) ∧ sl e ≠ 0
      · obtain ⟨⟨rfl, rfl⟩, k3⟩ := c2
        have hx : 100 * e' + (b + 2) = 100 * e' + b + 2 := by omega
        have := t2'.more (S' := addS S c b e') (w := v + 3) (fun val => by
          rw [ct val]
          constructor
          · rintro (h | ⟨_, ⟨h, _⟩ | ⟨_, _, h⟩⟩)
            · exact .inl h
            · omega
            · exact .inr h
          · rintro (h | h)
            · exact .inl h
            · exact .inr ⟨rfl, .inr ⟨rfl, k3, h⟩⟩) (by omega)
        rw [if_neg (by omega)]
        by_cases hlt : v + 3 < υ.2.1 43 (100 * e' + (b + 2))
        · rw [if_pos hlt] at this
          rw [if_pos ⟨hx, ⟨k3, by omega⟩, hlt⟩]; exact this
        · rw [if_neg hlt] at this
          rw [if_neg (fun q => hlt q.2.2)]; exact this
      · have same := t2'.iff (S' := addS S c b e) (fun val => by
          rw [ct val]
          constructor
          · exact .inl
          · rintro (h | ⟨k1, ⟨k2, k3, k4⟩ | ⟨k2, k3, k4⟩⟩)
            · exact h
            · exact absurd ⟨⟨k1, k2⟩, k3⟩ c3
            · exact absurd ⟨⟨k1, k2⟩, k3⟩ c2)
        rw [if_neg (fun q => c3 ⟨by omega, q.2.1.1⟩), if_neg (fun q => c2 ⟨by omega, q.2.1.1⟩)]
        exact same
/-- every entry of the table is in its bounds -/
def Tb43 (υ : St) : Prop := ∀ x : Int, 0 ≤ x → x < 6400 → 0 ≤ υ.2.1 43 x ∧ υ.2.1 43 x ≤ 1000000
theorem enter_eq {m t : Nat} {bk : Int} (hI : IMach m bk σ σm) {i hr br most : Int} (hi : 0 ≤ i ∧ i ≤ 2) (hl : RTl t i 2 σ σm) {υ : St} (hM : WMr υ.1 υ.2.2) (f0 : FM [43, 31] [54, 55, 56] σm υ) (hB : Tb43 υ) (hmo : 0 ≤ most ∧ most ≤ 99) {e b v : Int} (he : 0 ≤ e ∧ e ≤ 63) (hb : 0 ≤ b ∧ b ≤ 99) (hv : 0 ≤ v ∧ v < 100000) (hN : 1000 < N) : ∃ φ, f_X12_enter N υ 1 e b v i hr br most = some (φ, 0) ∧ FM [43, 31] [54, 55, 56] σm φ ∧ Tb43 φ ∧ ∀ x, φ.2.1 43 x = if x = 100 * e + b + 3 ∧ (fsC σ t m hr br e ≠ 0 ∧ b + 3 ≤ most) ∧ v + 1 < υ.2.1 43 x then v + 1 else if x = 100 * e + b + 2 ∧ (slC σ t m hr e ≠ 0 ∧ b + 2 ≤ most) ∧ v + 3 < υ.2.1 43 x then v + 3 else υ.2.1 43 x := by
  have rg := hI.2.2.2.2.2.2.2.2.2 e he.1 (by omega)
  have i3 := hI.2.2.1
  have i4 := hI.2.2.2.1
  have fl : ∀ {τ : St}, WMr τ.1 τ.2.2 → FM [43, 31] [54, 55, 56] σm τ → ∀ s, ∃ φ, f_X12_flies N τ 1 i (σ.2.1 (m + 14) e) hr s = some (φ, flyB σ t (σ.2.1 (m + 14) e) hr s) ∧ FM [43, 31] [54, 55, 56] σm φ ∧ φ.2.1 43 = τ.2.1 43 := fun {τ} hM f s => by
    obtain ⟨φ, e1, f1⟩ := flies_eq (N := N) hM hi (hl.keep (fun _ _ _ => rfl) (f.2.2.1 25 (by decide) (by decide)) (f.2.2.1 26 (by decide) (by decide)) (f.2.2.1 27 (by decide) (by decide)) (f.2.2.1 28 (by decide) (by decide)) (f.2.2.1 32 (by decide) (by decide))) (σ.2.1 (m + 14) e) hr s hN
    exact ⟨φ, e1, f.trans (f1.mono (by simp) (by simp)), f1.2.2.1 43 (by decide) (by decide)⟩
  have H : Ok (f_X12_enter N υ 1 e b v i hr br most) (fun w => w.2 = 0 ∧ FM [43, 31] [54, 55, 56] σm w.1 ∧ Tb43 w.1 ∧ ∀ x, w.1.2.1 43 x = if x = 100 * e + b + 3 ∧ (fsC σ t m hr br e ≠ 0 ∧ b + 3 ≤ most) ∧ v + 1 < υ.2.1 43 x then v + 1 else if x = 100 * e + b + 2 ∧ (slC σ t m hr e ≠ 0 ∧ b + 2 ≤ most) ∧ v + 3 < υ.2.1 43 x then v + 3 else υ.2.1 43 x) := by
    unfold f_X12_enter
    refine sm_gR hM rfl ?_
    refine sm_gI hM ?_
    rw [f0.f (by decide), i3]
    refine sm_aI hM rfl rfl (by decide) (by omega) (by omega) ?_
    rw [f0.2.2.1 21 (by decide) (by decide), rg.1]
    refine st_Jn ?_
    -- the slow half
    have slow : ∀ τ, FM [43, 31] [54, 55, 56] σm τ → Tb43 τ → (∀ x, τ.2.1 43 x = if x = 100 * e + b + 3 ∧ (fsC σ t m hr br e ≠ 0 ∧ b + 3 ≤ most) ∧ v + 1 < υ.2.1 43 x then v + 1 else υ.2.1 43 x) → Ok (if wr (slC σ t m hr e) = 0 then some (τ, (0 : Int)) else (if wr most < wr (b + 2) then some (τ, (0 : Int)) else Option.bind (gR shm τ 12 1 77) fun minutes_7 => Option.bind (aI shm τ 1 minutes_7 (((100 * e) + b) + 2)) fun a8 => (if wr (v + 3) < wr a8 then Option.bind (gR shm τ 12 1 77) fun minutes_9 => Option.bind (sI shm τ 1 minutes_9 (((100 * e) + b) + 2) (v + 3)) fun σ10 => some (σ10, (0 : Int)) else some (τ, (0 : Int))))) (fun w => w.2 = 0 ∧ FM [43, 31] [54, 55, 56] σm w.1 ∧ Tb43 w.1 ∧ ∀ x, w.1.2.1 43 x = if x = 100 * e + b + 3 ∧ (fsC σ t m hr br e ≠ 0 ∧ b + 3 ≤ most) ∧ v + 1 < υ.2.1 43 x then v + 1 else if x = 100 * e + b + 2 ∧ (slC σ t m hr e ≠ 0 ∧ b + 2 ≤ most) ∧ v + 3 < υ.2.1 43 x then v + 3 else υ.2.1 43 x) := fun τ f hB' hx => by
      have hMτ : WMr τ.1 τ.2.2 := by rw [f.1, f.2.1, ← f0.1, ← f0.2.1]; exact hM
      have hor : slC σ t m hr e = 0 ∨ slC σ t m hr e = 1 := b01_or _
      have no : ¬ (slC σ t m hr e ≠ 0 ∧ b + 2 ≤ most ∧ v + 3 < υ.2.1 43 (100 * e + b + 2)) → (fun w : St × Int => w.2 = 0 ∧ FM [43, 31] [54, 55, 56] σm w.1 ∧ Tb43 w.1 ∧ ∀ x, w.1.2.1 43 x = if x = 100 * e + b + 3 ∧ (fsC σ t m hr br e ≠ 0 ∧ b + 3 ≤ most) ∧ v + 1 < υ.2.1 43 x then v + 1 else if x = 100 * e + b + 2 ∧ (slC σ t m hr e ≠ 0 ∧ b + 2 ≤ most) ∧ v + 3 < υ.2.1 43 x then v + 3 else υ.2.1 43 x) (τ, 0) := fun hc => by
        refine ⟨rfl, f, hB', fun x => ?_⟩
        dsimp only
        rw [hx x]
        by_cases q : x = 100 * e + b + 3 ∧ (fsC σ t m hr br e ≠ 0 ∧ b + 3 ≤ most) ∧ v + 1 < υ.2.1 43 x
        · rw [if_pos q, if_pos q]
        · rw [if_neg q, if_neg q, if_neg (fun q2 => hc ⟨q2.2.1.1, q2.2.1.2, by rw [← q2.1]; exact q2.2.2⟩)]
      refine ok_weqc (by omega) (fun h1 => ok_some (no (fun q => q.1 h1))) (fun h1 => ?_)
      refine ok_wlt (by omega) (by omega) (fun h2 => ok_some (no (fun q => by omega))) (fun h2 => ?_)
      have hrow : τ.2.1 43 (100 * e + b + 2) = υ.2.1 43 (100 * e + b + 2) := by rw [hx, if_neg (by omega)]
      have bu := hB (100 * e + b + 2) (by omega) (by omega)
      refine sm_gR hMτ rfl ?_
      refine sm_aI hMτ rfl rfl (by decide) (by omega) (by omega) ?_
      rw [hrow]
      refine ok_wlt (by omega) (by omega) (fun h3 => ?_) (fun h3 => ok_some (no (fun q => by omega)))
      refine sm_gR hMτ rfl ?_
      refine sm_sI hMτ rfl rfl (by decide) (by omega) (by omega) (ok_some ?_)
      refine ⟨rfl, f.uI (by decide) (by simp), fun x x0 x1 => ?_, fun x => ?_⟩
      · dsimp only
        rw [uW_at]
        split
        · omega
        · exact hB' x x0 x1
      · dsimp only
        rw [uW_at]
        by_cases hq : x = 100 * e + b + 2
        · rw [if_pos hq, if_neg (by omega), if_pos ⟨hq, ⟨h1, h2⟩, by rw [hq]; exact h3⟩]
        · rw [if_neg hq, hx x]
          by_cases q : x = 100 * e + b + 3 ∧ (fsC σ t m hr br e ≠ 0 ∧ b + 3 ≤ most) ∧ v + 1 < υ.2.1 43 x
          · rw [if_pos q, if_pos q]
          · rw [if_neg q, if_neg q, if_neg (fun q2 => hq q2.1)]
    -- the fast half
    have main : ∀ τ x0, FM [43, 31] [54, 55, 56] σm τ → τ.2.1 43 = υ.2.1 43 → (x0 = 0 ∨ x0 = 1) → x0 = fsC σ t m hr br e → Ok (Option.bind (rcv shm τ 12 1 (f_X12_flies N τ 1 i (σ.2.1 (m + 14) e) hr 9)) fun q5 => Jn (fun t6 : St => (if wr q5.2 = 0 then some (t6, (0 : Int)) else (if wr most < wr (b + 2) then some (t6, (0 : Int)) else Option.bind (gR shm t6 12 1 77) fun minutes_7 => Option.bind (aI shm t6 1 minutes_7 (((100 * e) + b) + 2)) fun a8 => (if wr (v + 3) < wr a8 then Option.bind (gR shm t6 12 1 77) fun minutes_9 => Option.bind (sI shm t6 1 minutes_9 (((100 * e) + b) + 2) (v + 3)) fun σ10 => some (σ10, (0 : Int)) else some (t6, (0 : Int)))))) fun J110_13 => (if wr x0 = 0 then J110_13 q5.1 else (if wr most < wr (b + 3) then J110_13 q5.1 else Option.bind (gR shm q5.1 12 1 77) fun minutes_15 => Option.bind (aI shm q5.1 1 minutes_15 (((100 * e) + b) + 3)) fun a16 => (if wr (v + 1) < wr a16 then Option.bind (gR shm q5.1 12 1 77) fun minutes_17 => Option.bind (sI shm q5.1 1 minutes_17 (((100 * e) + b) + 3) (v + 1)) fun σ18 => J110_13 σ18 else J110_13 q5.1)))) (fun w => w.2 = 0 ∧ FM [43, 31] [54, 55, 56] σm w.1 ∧ Tb43 w.1 ∧ ∀ x, w.1.2.1 43 x = if x = 100 * e + b + 3 ∧ (fsC σ t m hr br e ≠ 0 ∧ b + 3 ≤ most) ∧ v + 1 < υ.2.1 43 x then v + 1 else if x = 100 * e + b + 2 ∧ (slC σ t m hr e ≠ 0 ∧ b + 2 ≤ most) ∧ v + 3 < υ.2.1 43 x then v + 3 else υ.2.1 43 x) := fun τ x0 f e43 hx01 hx0 => by
      have hMτ : WMr τ.1 τ.2.2 := by rw [f.1, f.2.1, ← f0.1, ← f0.2.1]; exact hM
      obtain ⟨φ, e1, f1, g43⟩ := fl hMτ f 9
      have hMφ : WMr φ.1 φ.2.2 := by rw [f1.1, f1.2.1, ← f0.1, ← f0.2.1]; exact hM
      have a43 : φ.2.1 43 = υ.2.1 43 := g43.trans e43
      have hBφ : Tb43 φ := fun x x0 x1 => by rw [a43]; exact hB x x0 x1
      refine sm_rcv hMτ (ok_rw e1 (st_Jn ?_))
      dsimp only
      have no : ¬ (x0 ≠ 0 ∧ b + 3 ≤ most ∧ v + 1 < υ.2.1 43 (100 * e + b + 3)) → (∀ x, φ.2.1 43 x = if x = 100 * e + b + 3 ∧ (fsC σ t m hr br e ≠ 0 ∧ b + 3 ≤ most) ∧ v + 1 < υ.2.1 43 x then v + 1 else υ.2.1 43 x) := fun hc x => by
        rw [a43, if_neg (fun q => hc ⟨by rw [hx0]; exact q.2.1.1, q.2.1.2, by rw [← q.1]; exact q.2.2⟩)]
      refine ok_weqc (by omega) (fun h1 => slow φ f1 hBφ (no (fun q => q.1 h1))) (fun h1 => ?_)
      refine ok_wlt (by omega) (by omega) (fun h2 => slow φ f1 hBφ (no (fun q => by omega))) (fun h2 => ?_)
      have bu := hB (100 * e + b + 3) (by omega) (by omega)
      refine sm_gR hMφ rfl ?_
      refine sm_aI hMφ rfl rfl (by decide) (by omega) (by omega) ?_
      rw [a43]
      refine ok_wlt (by omega) (by omega) (fun h3 => ?_) (fun h3 => slow φ f1 hBφ (no (fun q => by omega)))
      refine sm_gR hMφ rfl ?_
      refine sm_sI hMφ rfl rfl (by decide) (by omega) (by omega) ?_
      refine slow _ (f1.uI (by decide) (by simp)) (fun x x0 x1 => ?_) (fun x => ?_)
      · rw [uW_at]
        split
        · omega
        · exact hBφ x x0 x1
      · rw [uW_at]
        by_cases hq : x = 100 * e + b + 3
        · rw [if_pos hq, if_pos ⟨hq, ⟨by rw [← hx0]; exact h1, h2⟩, by rw [hq]; exact h3⟩]
        · rw [if_neg hq, a43, if_neg (fun q => hq q.1)]
    refine ok_ite (fun h1 => ?_) (fun h1 => ?_)
    · obtain ⟨φ, e1, f1, g43⟩ := fl hM f0 20
      refine st_Jn (sm_rcv hM (ok_rw e1 ?_))
      dsimp only
      rcases b01_or (lv σ t 2 (qF (σ.2.1 (m + 14) e) hr 20)) with h3 | h3
      · have h3' : flyB σ t (σ.2.1 (m + 14) e) hr 20 = 0 := h3
        rw [h3']
        exact ok_z0 (main φ 0 f1 g43 (.inl rfl) (by unfold fsC fsV; rw [if_neg (fun q => by omega)]))
      · have h3' : flyB σ t (σ.2.1 (m + 14) e) hr 20 = 1 := h3
        rw [h3']
        exact ok_z1 (main φ 1 f1 g43 (.inr rfl) (by unfold fsC fsV; rw [if_pos ⟨h1, h3'⟩]))
    · exact st_Jn (main υ 0 f0 rfl (.inl rfl) (by unfold fsC fsV; rw [if_neg (fun q => h1 q.1)]))
  obtain ⟨⟨φ, w⟩, e1, h1, h2⟩ := H
  dsimp only at h1 h2
  subst h1
  exact ⟨φ, e1, h2⟩
end W
