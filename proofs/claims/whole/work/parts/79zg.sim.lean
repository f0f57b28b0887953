/-! the pure part: the reference reads an expression as it is to be read -/
section F
variable {N : Nat} {σ τ υ : St} {z : Zs} {n : Int}
def EB (N : Nat) : ((St × Int) → Option (St × Int)) → (St × Int) → Option (St × Int) := fun b19_4 t4 =>
 Option.bind (rcv shm t4.1 12 1 (f_X12_isGood N t4.1 1)) fun q6 =>
 (if wr q6.2 = 0 then some (t4.1, 0) else Option.bind (gI shm t4.1 12 1 48) fun piled_7 =>
 (if 0 < wr piled_7 then Jn (fun t8 : St × Int => b19_4 (t8.1, t8.2)) fun J48_8 =>
 (if wr t4.2 = 0 then Option.bind (rcv shm t4.1 12 1 (f_X12_behind N t4.1 1)) fun q10 =>
 J48_8 (q10.1, q10.2) else Option.bind (rcv shm t4.1 12 1 (f_X12_unit N t4.1 1)) fun q11 =>
 J48_8 (q11.1, q11.2)) else some (t4.1, 0)))
def Rn (N F : Nat) (σ : St) (w : Int) (Q : St × Int → Prop) : Prop := ∀ M, F ≤ M → Ok (fixN M (EB N) (σ, w)) Q
theorem Rn.le {F F' : Nat} {w : Int} {Q : St × Int → Prop} (h : Rn N F σ w Q) (l : F ≤ F') : Rn N F' σ w Q := fun M hM => h M (by omega)
theorem it_dead {w : Int} {Q : St × Int → Prop} {dd : Int × Int} (h : MR z (.inl dd) σ) (q : Q (σ, 0)) : Rn N 1 σ w Q := fun M hM => by
  obtain ⟨M', rfl⟩ : ∃ M', M = M' + 1 := ⟨M - 1, by omega⟩
  show Ok (EB N (fixN M' (EB N)) (σ, w)) Q
  unfold EB
  exact sm_rcv h.1 (ok_rw (isGood_eq h) (ok_z0 (ok_some q)))
theorem it_empty {w : Int} {Q : St × Int → Prop} {s : PS} (h : RP z n s [] σ) (q : Q (σ, 0)) : Rn N 1 σ w Q := fun M hM => by
  obtain ⟨M', rfl⟩ : ∃ M', M = M' + 1 := ⟨M - 1, by omega⟩
  show Ok (EB N (fixN M' (EB N)) (σ, w)) Q
  unfold EB
  refine sm_rcv h.1.1 (ok_rw (isGood_eq h.1) (ok_z1 ?_))
  refine sm_gI h.1.1 ?_
  rw [h.2.1.2.2.1]
  exact ok_w0lt (by decide) (fun c => absurd c (by decide)) (fun _ => ok_some q)
theorem it_unit {Q : St × Int → Prop} {s : PS} {P : List Int} {F : Nat} (h : RP z n s P σ) (hp : 0 < P.length) (k : Ok (f_X12_unit N σ 1) (fun q => Rn N F q.1 q.2 Q)) : Rn N (F + 1) σ 1 Q := fun M hM => by
  obtain ⟨M', rfl⟩ : ∃ M', M = M' + 1 := ⟨M - 1, by omega⟩
  show Ok (EB N (fixN M' (EB N)) (σ, 1)) Q
  unfold EB
  have h60 := h.2.2.2.2.2
  refine sm_rcv h.1.1 (ok_rw (isGood_eq h.1) (ok_z1 ?_))
  refine sm_gI h.1.1 ?_
  rw [h.2.1.2.2.1]
  refine ok_w0lt (by omega) (fun _ => st_Jn (ok_z1 ?_)) (fun c => by omega)
  refine sm_rcv h.1.1 (ok_bind (ok_mono k fun v hv => ?_))
  exact hv M' (by omega)
theorem it_behind {Q : St × Int → Prop} {s : PS} {P : List Int} {F : Nat} (h : RP z n s P σ) (hp : 0 < P.length) (k : Ok (f_X12_behind N σ 1) (fun q => Rn N F q.1 q.2 Q)) : Rn N (F + 1) σ 0 Q := fun M hM => by
  obtain ⟨M', rfl⟩ : ∃ M', M = M' + 1 := ⟨M - 1, by omega⟩
  show Ok (EB N (fixN M' (EB N)) (σ, 0)) Q
  unfold EB
  have h60 := h.2.2.2.2.2
  refine sm_rcv h.1.1 (ok_rw (isGood_eq h.1) (ok_z1 ?_))
  refine sm_gI h.1.1 ?_
  rw [h.2.1.2.2.1]
  refine ok_w0lt (by omega) (fun _ => st_Jn (ok_z0 ?_)) (fun c => by omega)
  refine sm_rcv h.1.1 (ok_bind (ok_mono k fun v hv => ?_))
  exact hv M' (by omega)
def rkL (L : Int) : Int := if L = 0 then 1 else if L = 1 then 2 else if L = 2 then 4 else if L = 3 then 5 else if L = 4 then 6 else 7
def mnL (L : Int) : Int := if L = 0 then 1 else if L = 1 then 2 else if L = 2 then 3 else if L = 3 then 5 else if L = 4 then 6 else 7
theorem rkL_T {kd : Int} (h : lvl kd ≠ -1) : rkT kd = rkL (lvl kd) := by
  have : kd = 20 ∨ kd = 21 ∨ kd = 42 ∨ kd = 43 ∨ kd = 45 ∨ kd = 60 ∨ kd = 61 ∨ kd = 62 := by
    unfold lvl at h
    repeat' split at h
    all_goals first | omega | (exact absurd rfl h)
  rcases this with rfl | rfl | rfl | rfl | rfl | rfl | rfl | rfl <;> decide
theorem rkL_mn {L : Int} (h : 0 ≤ L ∧ L ≤ 4) : rkL L ≤ mnL (L + 1) ∧ mnL L ≤ rkL L ∧ rkL L < rkL (L + 1) ∧ 1 ≤ rkL L ∧ rkL L ≤ 6 ∧ (2 ≤ L → 4 ≤ rkL L) ∧ (L = 2 ↔ rkL L = 4) := by
  have : L = 0 ∨ L = 1 ∨ L = 2 ∨ L = 3 ∨ L = 4 := by omega
  rcases this with rfl | rfl | rfl | rfl | rfl <;> decide
theorem lvl_rg (kd : Int) : -1 ≤ lvl kd ∧ lvl kd ≤ 4 := by
  by_cases q : lvl kd = -1
  · omega
  · have := (lvl_bin q).2.2.2; omega
theorem cmpB_skip : ∀ {a b : List Int}, (∀ q, q ∈ a → rk q = 5 ∨ rk q = 6) → cmpB (a ++ b) = cmpB b
  | [], _, _ => rfl
  | x :: a, b, h => by
    show (if rk x = 5 ∨ rk x = 6 then cmpB (a ++ b) else _) = _
    rw [if_pos (h x List.mem_cons_self)]
    exact cmpB_skip fun q hq => h q (List.mem_cons_of_mem _ hq)
/-- a pile on which a level may begin -/
def cpt (P : List Int) (L kd : Int) : Prop := ∃ y ys, P = y :: ys ∧ (7 ≤ rk y ∨ rk y < rkL L) ∧ (3 ≤ L → kd = 22 → 4 ≤ rk y ∧ rk y ≤ 6)
def lvT (tag : Nat) (L : Int) : Int := if tag = 2 then 2 else if tag = 3 then 5 else L
/-- what holds behind a level -/
def PO (z : Zs) (n : Int) (P : List Int) (L : Int) (s' : PS) (x : St) (Q0 c1 : List Int) : Prop := RP z n (s'.1, s'.2.1, c1) (Q0 ++ P) x ∧ emA Q0 c1 = s'.2.2 ∧ (∀ q, q ∈ Q0 → q < 0 ∧ mnL L ≤ rk q ∧ rk q ≤ 6) ∧ (lvl (kZ z s'.1) < L ∨ (lvl (kZ z s'.1) = 2 ∧ cmpB (Q0 ++ P) = true))
def fuel (z : Zs) (k : Int) : Nat := (KZ z - k).toNat + 3
theorem fuel_nx {k : Int} (hz : Str z) (hk : 0 ≤ k ∧ k < KZ z) (kd : kZ z k ≠ 102) : fuel z k = fuel z (nxt z k) + 1 := by
  obtain ⟨e, l⟩ := nx1 hz hk kd
  unfold fuel
  omega
/-- the loop over a level's operands -/
theorem rf_L {g : Nat} {L d : Int} (hz : Str z) (n7 : nZ z ≤ 700) (hN : 5000 < N) (hL : 0 ≤ L ∧ L ≤ 4) (hd : 0 ≤ d ∧ d ≤ 7) {s : PS} {P : List Int} {Q : St × Int → Prop} {σ : St} {R : PRs} {most : Nat} (hmost : (L = 2 → most = 1) ∧ (L ≠ 2 → most = 60))
    (ih : ∀ (s : PS) (P : List Int) (σ : St) (Q : St × Int → Prop), cpt P (L + 1) (kZ z s.1) → (2 : Int) ∈ P → cnt P = d → (P.length : Int) ≤ 6 * d + (L + 1) + 1 → RP z n s P σ → (0 ≤ s.2.1 ∧ s.2.1 ≤ 60) → (∀ dd x, Gg z n g 0 (L + 1) d s = .inl dd → MR z (.inl dd) x → FA EAf σ x → Q (x, 0)) → (∀ s' x Q0 c1, Gg z n g 0 (L + 1) d s = .inr s' → PO z n P (L + 1) s' x Q0 c1 → FA EAf σ x → Rn N (fuel z s'.1) x 0 Q) → Rn N (fuel z s.1) σ 1 Q)
    (hF : ∀ a b : PS, 0 ≤ a.1 → a.1 < KZ z → 0 ≤ a.2.1 → Gg z n g 0 (L + 1) d a = .inr b → GP z n a b)
    (h0 : 0 ≤ s.1 ∧ 0 ≤ s.2.1) (hP : ∃ y ys, P = y :: ys ∧ (7 ≤ rk y ∨ rk y < rkL L)) (h2 : (2 : Int) ∈ P) (hc : cnt P = d) (hlen : (P.length : Int) ≤ 6 * d + L + 1)
    (wd : ∀ dd x, R = .inl dd → MR z (.inl dd) x → FA EAf σ x → Q (x, 0)) (wa : ∀ s' x Q0 c1, R = .inr s' → PO z n P L s' x Q0 c1 → FA EAf σ x → Rn N (fuel z s'.1) x 0 Q) : ∀ (i : Nat) (s1 : PS) (x : St) (Q0 c1 : List Int), i ≤ most → R = LpG z (fun s => Gg z n g 0 (L + 1) d s) L i s1 → GP z n s s1 → (most : Int) - (i : Int) + 1 ≤ s1.2.1 - s.2.1 → RP z n (s1.1, s1.2.1, c1) (Q0 ++ P) x → emA Q0 c1 = s1.2.2 → (∀ q, q ∈ Q0 → q < 0 ∧ rkL L ≤ rk q ∧ rk q ≤ 6) → (lvl (kZ z s1.1) < L + 1 ∨ (lvl (kZ z s1.1) = 2 ∧ cmpB (Q0 ++ P) = true)) → (L = 2 → (i = 0 ↔ cmpB (Q0 ++ P) = true)) → FA EAf σ x → Rn N (fuel z s1.1) x 0 Q
  | 0, s1, x, Q0, c1, hi, hR, hgp, hu, hr, he, hq, hnx, hcm, hFx => by
    refine wa s1 x Q0 c1 hR ⟨hr, he, fun q hq' => ?_, ?_⟩ hFx
    · have := hq q hq'
      have := (rkL_mn hL).2.1
      omega
    · rcases hnx with hnx | hnx
      · by_cases c : lvl (kZ z s1.1) = L
        · by_cases l2 : L = 2
          · exact .inr ⟨by omega, (hcm l2).mp rfl⟩
          · have := hmost.2 l2
            have := hgp.2.2.2.1
            omega
        · exact .inl (by omega)
      · exact .inr hnx
  | i + 1, s1, x, Q0, c1, hi, hR, hgp, hu, hr, he, hq, hnx, hcm, hFx => by
    obtain ⟨r1, r2, r3, r4, r5, r6, r7⟩ := rkL_mn hL
    by_cases c : lvl (kZ z s1.1) = L
    · have hop : lvl (kZ z s1.1) ≠ -1 := by omega
      have k102 := (lvl_bin hop).2.1
      have kk : 0 ≤ s1.1 ∧ s1.1 < KZ z := ⟨by have := hgp.1; omega, hgp.2.1⟩
      have nx := nx1 hz kk k102
      have eT := rkL_T hop
      rw [c] at eT
      obtain ⟨y, ys, rfl, hy⟩ := hP
      have lp : LpG z (fun s => Gg z n g 0 (L + 1) d s) L (i + 1) s1 = bndP (Gg z n g 0 (L + 1) d (nxt z s1.1, s1.2.1, s1.2.2)) (fun s' => LpG z (fun s => Gg z n g 0 (L + 1) d s) L i (s'.1, s'.2.1, (-1 - kZ z s1.1) :: s'.2.2)) := if_pos c
      rw [lp] at hR
      rw [fuel_nx hz kk k102]
      obtain ⟨o1, o2, o3, o4, _⟩ := op_facts hop
      refine it_behind hr (by rw [List.length_append, List.length_cons]; omega) ?_
      refine behindOp hz n7 hr hop (fun q hq' => by have := hq q hq'; dsimp only; omega) (by dsimp only; omega) (fun q => ?_) ⟨2, List.mem_append_right _ h2, by decide, by decide⟩ (by omega) (by omega) (fun x' hr' hF' => ?_)
      · have l2 : L = 2 := by
          have := q.1
          dsimp only at this
          omega
        have := (hcm l2).mpr q.2
        omega
      · dsimp only at hr' ⊢
        rw [he] at hr'
        have hrk : rk (-1 - kZ z s1.1) = rkL L := by omega
        refine ih (nxt z s1.1, s1.2.1, s1.2.2) ((-1 - kZ z s1.1) :: y :: ys) x' Q ⟨_, _, rfl, .inr (by omega), fun q _ => ⟨by have := r6 (by omega); omega, by omega⟩⟩ (List.mem_cons_of_mem _ h2) ?_ (by rw [List.length_cons]; omega) hr' (by have := hgp.2.2.1; have := hgp.2.2.2.1; dsimp only; omega) (fun dd x2 e m f => ?_) (fun s2 x2 Q2 c2 e po f => ?_)
        · show cnt (y :: ys) + (if -1 - kZ z s1.1 = -23 ∨ -1 - kZ z s1.1 = 1 then 1 else 0) = d
          rw [if_neg o4]; omega
        · rw [e] at hR
          exact wd dd x2 hR m ((hFx.trans hF').trans f)
        · rw [e] at hR
          have gp2 := hF (nxt z s1.1, s1.2.1, s1.2.2) s2 (by dsimp only; omega) (by dsimp only; omega) (by have := hgp.2.2.1; dsimp only; omega) e
          have gp3 := hgp.join hz h0.1 rfl hop gp2
          obtain ⟨p1, p2, p3, p4⟩ := po
          refine rf_L hz n7 hN hL hd hmost ih hF h0 ⟨y, ys, rfl, hy⟩ h2 hc hlen wd wa i (s2.1, s2.2.1, (-1 - kZ z s1.1) :: s2.2.2) x2 (Q2 ++ [-1 - kZ z s1.1]) c2 (by omega) hR gp3 ?_ ?_ ?_ (fun q hq' => ?_) ?_ (fun l2 => ⟨fun _ => ?_, fun _ => ?_⟩) ((hFx.trans hF').trans f)
          · have := gp2.2.2.1
            dsimp only at this ⊢
            omega
          · rw [List.append_assoc]; exact p1
          · rw [emA_app, p2]; rfl
          · rcases List.mem_append.mp hq' with hq' | hq'
            · have := p3 q hq'
              omega
            · rcases List.mem_cons.mp hq' with rfl | hq'
              · omega
              · cases hq'
          · rw [List.append_assoc]; exact p4
          · rw [List.append_assoc, cmpB_skip fun q hq' => ?_]
            · show (if rk (-1 - kZ z s1.1) = 5 ∨ rk (-1 - kZ z s1.1) = 6 then _ else decide (rk (-1 - kZ z s1.1) = 4)) = true
              have := r7.mp l2
              rw [if_neg (by omega)]
              exact decide_eq_true (by omega)
            · have := p3 q hq'
              rw [l2] at this
              have m3 : mnL (2 + 1) = 5 := rfl
              omega
          · have := hmost.1 l2
            omega
    · have lp : LpG z (fun s => Gg z n g 0 (L + 1) d s) L (i + 1) s1 = .inr s1 := if_neg c
      rw [lp] at hR
      refine wa s1 x Q0 c1 hR ⟨hr, he, fun q hq' => ?_, ?_⟩ hFx
      · have := hq q hq'
        omega
      · rcases hnx with hnx | hnx
        · exact .inl (by omega)
        · exact .inr hnx
end F
