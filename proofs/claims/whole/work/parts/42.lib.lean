/-! the pure part: library -/
def rxT (k j : Nat) : Option Nat := match k, j with
  | 1, 0 => some 2
  | 1, 3 => some 38
  | 1, 4 => some 39
  | 1, 6 => some 64
  | 1, 7 => some 66
  | 1, 8 => some 73
  | 1, 9 => some 92
  | 1, 10 => some 100
  | 1, 11 => some 104
  | 1, 12 => some 108
  | 2, 0 => some 3
  | 2, 1 => some 4
  | 2, 4 => some 5
  | 2, 5 => some 6
  | 2, 6 => some 7
  | 8, 2 => some 9
  | 8, 3 => some 10
  | 8, 4 => some 11
  | 8, 5 => some 12
  | 8, 6 => some 13
  | 8, 8 => some 14
  | 8, 9 => some 15
  | 8, 10 => some 16
  | 8, 12 => some 17
  | 8, 13 => some 18
  | 8, 14 => some 19
  | 8, 16 => some 20
  | 8, 17 => some 21
  | 8, 19 => some 22
  | 23, 2 => some 24
  | 23, 3 => some 25
  | 23, 4 => some 26
  | 23, 5 => some 27
  | 23, 6 => some 28
  | 23, 8 => some 29
  | 23, 9 => some 30
  | 23, 10 => some 31
  | 23, 12 => some 32
  | 23, 13 => some 33
  | 23, 14 => some 34
  | 23, 16 => some 35
  | 23, 17 => some 36
  | 23, 19 => some 37
  | 40, 3 => some 41
  | 40, 4 => some 42
  | 40, 5 => some 43
  | 40, 6 => some 44
  | 40, 7 => some 45
  | 46, 3 => some 47
  | 46, 4 => some 48
  | 46, 5 => some 49
  | 46, 6 => some 50
  | 46, 7 => some 51
  | 52, 3 => some 53
  | 52, 4 => some 54
  | 52, 5 => some 55
  | 52, 6 => some 56
  | 52, 7 => some 57
  | 58, 3 => some 59
  | 58, 4 => some 60
  | 58, 5 => some 61
  | 58, 6 => some 62
  | 58, 7 => some 63
  | 64, 0 => some 65
  | 66, 2 => some 67
  | 66, 3 => some 68
  | 66, 4 => some 69
  | 66, 5 => some 70
  | 66, 6 => some 71
  | 66, 7 => some 72
  | 73, 3 => some 74
  | 73, 4 => some 75
  | 73, 5 => some 76
  | 73, 6 => some 90
  | 73, 7 => some 91
  | 76, 0 => some 77
  | 76, 1 => some 78
  | 76, 2 => some 79
  | 76, 3 => some 80
  | 76, 4 => some 81
  | 76, 5 => some 82
  | 76, 6 => some 83
  | 76, 7 => some 84
  | 76, 8 => some 85
  | 76, 9 => some 86
  | 76, 10 => some 87
  | 76, 11 => some 88
  | 76, 12 => some 89
  | 92, 0 => some 93
  | 92, 1 => some 94
  | 92, 2 => some 95
  | 95, 0 => some 96
  | 95, 1 => some 97
  | 95, 2 => some 98
  | 95, 3 => some 99
  | 100, 1 => some 101
  | 100, 2 => some 102
  | 100, 3 => some 103
  | 104, 2 => some 105
  | 104, 3 => some 106
  | 104, 4 => some 107
  | 108, 4 => some 109
  | 108, 5 => some 110
  | 108, 6 => some 111
  | 111, 0 => some 112
  | 111, 1 => some 113
  | _, _ => none
def rmT (j : Nat) : Option Nat := match j with
  | 0 => some 2
  | 1 => some 3
  | 11 => some 4
  | 12 => some 5
  | 13 => some 6
  | 14 => some 7
  | 15 => some 8
  | 16 => some 9
  | 17 => some 10
  | 18 => some 11
  | 19 => some 12
  | 20 => some 13
  | 21 => some 14
  | 22 => some 15
  | 23 => some 16
  | 24 => some 17
  | 25 => some 18
  | 26 => some 19
  | 27 => some 20
  | 28 => some 21
  | 29 => some 22
  | 30 => some 23
  | 36 => some 24
  | 37 => some 25
  | 38 => some 26
  | 39 => some 27
  | 40 => some 28
  | 41 => some 29
  | 42 => some 30
  | 43 => some 31
  | 44 => some 32
  | 61 => some 33
  | 62 => some 34
  | 63 => some 35
  | 64 => some 36
  | 65 => some 37
  | 66 => some 38
  | 69 => some 39
  | 70 => some 40
  | 71 => some 41
  | 72 => some 42
  | 77 => some 43
  | 78 => some 44
  | 79 => some 45
  | 80 => some 46
  | 82 => some 47
  | 83 => some 48
  | 88 => some 49
  | 89 => some 50
  | 90 => some 51
  | _ => none
/-- where the program answers, and what then holds -/
def Ok {α : Type} (o : Option α) (Q : α → Prop) : Prop := ∃ v, o = some v ∧ Q v
theorem ok_some {α : Type} {v : α} {Q : α → Prop} (h : Q v) : Ok (some v) Q := ⟨v, rfl, h⟩
theorem ok_eq {α : Type} {o : Option α} {v : α} {Q : α → Prop} (e : o = some v) (h : Q v) : Ok o Q := ⟨v, e, h⟩
theorem ok_bind {α β : Type} {a : Option α} {f : α → Option β} {Q : β → Prop} (h : Ok a (fun v => Ok (f v) Q)) : Ok (Option.bind a f) Q := by
  obtain ⟨v, rfl, w, e, h⟩ := h
  exact ⟨w, e, h⟩
theorem ok_call {α β : Type} {a : Option α} {f : α → Option β} {P : α → Prop} {Q : β → Prop} (h : Ok a P) (k : ∀ v, P v → Ok (f v) Q) : Ok (Option.bind a f) Q := by
  obtain ⟨v, rfl, h⟩ := h
  exact k v h
theorem ok_rw {α β : Type} {a : Option α} {v : α} {f : α → Option β} {Q : β → Prop} (e : a = some v) (k : Ok (f v) Q) : Ok (Option.bind a f) Q := by
  subst e
  exact k
theorem ok_mono {α : Type} {o : Option α} {P Q : α → Prop} (h : Ok o P) (k : ∀ v, P v → Q v) : Ok o Q := by
  obtain ⟨v, e, h⟩ := h
  exact ⟨v, e, k v h⟩
theorem ok_ite {α : Type} {c : Prop} [Decidable c] {a b : Option α} {Q : α → Prop} (h1 : c → Ok a Q) (h2 : ¬ c → Ok b Q) : Ok (if c then a else b) Q := by
  by_cases h : c
  · rw [if_pos h]; exact h1 h
  · rw [if_neg h]; exact h2 h
theorem ok_pos {α : Type} {c : Prop} [Decidable c] {a b : Option α} {Q : α → Prop} (h : c) (h1 : Ok a Q) : Ok (if c then a else b) Q := by rw [if_pos h]; exact h1
theorem ok_neg {α : Type} {c : Prop} [Decidable c] {a b : Option α} {Q : α → Prop} (h : ¬ c) (h1 : Ok b Q) : Ok (if c then a else b) Q := by rw [if_neg h]; exact h1
theorem ok_fix {T α : Type} {N : Nat} {F : (T → Option α) → T → Option α} {Q : α → Prop} (I : T → Prop) (μ : T → Nat) (h : ∀ (back : T → Option α) (t : T), I t → (∀ t', I t' → μ t' < μ t → Ok (back t') Q) → Ok (F back t) Q) (t : T) (hi : I t) (hN : μ t < N) : Ok (fixN N F t) Q := by
  induction N generalizing t with
  | zero => omega
  | succ n ih => exact h _ t hi fun t' h1 h2 => ih t' h1 (by omega)

theorem st_Lt {α β : Type} {a : β} {f : β → Option α} {Q : α → Prop} (h : Ok (f a) Q) : Ok (Lt a f) Q := h
theorem st_Jn {T α : Type} {r : T → Option α} {f : (T → Option α) → Option α} {Q : α → Prop} (h : Ok (f r) Q) : Ok (Jn r f) Q := h
/-- a field of a cell -/
def fI (σ : St) (k j : Nat) : Int := σ.2.1 k (j : Int)
def uF (σ : St) (k j : Nat) (v : Int) : St := uI σ k (j : Int) v
theorem fI_eq {σ : St} {k j : Nat} {v : Int} : fI (uF σ k j v) k j = v := if_pos ⟨rfl, rfl⟩
theorem fI_k {σ : St} {k k' j j' : Nat} {v : Int} (h : k ≠ k') : fI (uF σ k' j' v) k j = fI σ k j := if_neg fun q => h q.1
theorem fI_j {σ : St} {k k' j j' : Nat} {v : Int} (h : j ≠ j') : fI (uF σ k' j' v) k j = fI σ k j := if_neg fun q => h (Int.ofNat_inj.mp q.2)
theorem fI_uk {σ : St} {k k' j : Nat} {i v : Int} (h : k ≠ k') : fI (uI σ k' i v) k j = fI σ k j := if_neg fun q => h q.1
theorem uF_k {σ : St} {k k' j' : Nat} {i v : Int} (h : k ≠ k') : (uF σ k' j' v).2.1 k i = σ.2.1 k i := if_neg fun q => h q.1
theorem uI_k {σ : St} {k k' : Nat} {i i' v : Int} (h : k ≠ k') : (uI σ k' i' v).2.1 k i = σ.2.1 k i := if_neg fun q => h q.1
theorem uI_j {σ : St} {k k' : Nat} {i i' v : Int} (h : i ≠ i') : (uI σ k' i' v).2.1 k i = σ.2.1 k i := if_neg fun q => h q.2
theorem uI_eq {σ : St} {k : Nat} {i v : Int} : (uI σ k i v).2.1 k i = v := if_pos ⟨rfl, rfl⟩
theorem uI_rd {σ : St} {k k' : Nat} {j j' v : Int} : (uI σ k j v).2.1 k' j' = if k' = k ∧ j' = j then v else σ.2.1 k' j' := rfl
theorem uW_at {σ : St} {k : Nat} {j j' v : Int} : (uI σ k j v).2.1 k j' = if j' = j then v else σ.2.1 k j' := by
  by_cases h : j' = j
  · rw [if_pos h, h]; exact uI_eq
  · rw [if_neg h]; exact uI_j h
theorem uI_cell {σ : St} {k k' : Nat} {i v : Int} (h : k ≠ k') : (uI σ k' i v).2.1 k = σ.2.1 k := by funext i'; exact uI_k h
theorem uF_cell {σ : St} {k k' j' : Nat} {v : Int} (h : k ≠ k') : (uF σ k' j' v).2.1 k = σ.2.1 k := by funext i'; exact uF_k h
/-- worlds by count and references -/
def WXr (n : Nat) (r : Nat → Int → Nat) : Prop := n = 113 ∧ ∀ (k j v : Nat), rxT k j = some v → r k (j : Int) = v
def WMr (n : Nat) (r : Nat → Int → Nat) : Prop := n = 51 ∧ ∀ (j v : Nat), rmT j = some v → r 1 (j : Int) = v
/-- of the FX only the named cells are others -/
def FX (A : List Nat) (σ τ : St) : Prop := τ.1 = σ.1 ∧ τ.2.2 = σ.2.2 ∧ ∀ k, k ∉ A → τ.2.1 k = σ.2.1 k
def FM (A J : List Nat) (σ τ : St) : Prop := τ.1 = σ.1 ∧ τ.2.2 = σ.2.2 ∧ (∀ k, k ≠ 1 → k ∉ A → τ.2.1 k = σ.2.1 k) ∧ ∀ j, j ∉ J → fI τ 1 j = fI σ 1 j
theorem FX.refl {A : List Nat} {σ : St} : FX A σ σ := ⟨rfl, rfl, fun _ _ => rfl⟩
theorem FM.refl {A J : List Nat} {σ : St} : FM A J σ σ := ⟨rfl, rfl, fun _ _ _ => rfl, fun _ _ => rfl⟩
theorem FX.trans {A : List Nat} {σ τ υ : St} (h : FX A σ τ) (g : FX A τ υ) : FX A σ υ := ⟨g.1.trans h.1, g.2.1.trans h.2.1, fun k hk => (g.2.2 k hk).trans (h.2.2 k hk)⟩
theorem FM.trans {A J : List Nat} {σ τ υ : St} (h : FM A J σ τ) (g : FM A J τ υ) : FM A J σ υ := ⟨g.1.trans h.1, g.2.1.trans h.2.1, fun k h1 hk => (g.2.2.1 k h1 hk).trans (h.2.2.1 k h1 hk), fun j hj => (g.2.2.2 j hj).trans (h.2.2.2 j hj)⟩
theorem FX.mono {A B : List Nat} {σ τ : St} (h : FX A σ τ) (s : ∀ k, k ∈ A → k ∈ B) : FX B σ τ := ⟨h.1, h.2.1, fun k hk => h.2.2 k fun q => hk (s k q)⟩
theorem FM.mono {A B J K : List Nat} {σ τ : St} (h : FM A J σ τ) (s : ∀ k, k ∈ A → k ∈ B) (t : ∀ k, k ∈ J → k ∈ K) : FM B K σ τ := ⟨h.1, h.2.1, fun k h1 hk => h.2.2.1 k h1 fun q => hk (s k q), fun j hj => h.2.2.2 j fun q => hj (t j q)⟩
theorem FX.uI {A : List Nat} {σ τ : St} {k : Nat} {i v : Int} (h : FX A σ τ) (hk : k ∈ A) : FX A σ (uI τ k i v) := ⟨h.1, h.2.1, fun k' h' => (uI_cell fun e => h' (by rw [e]; exact hk)).trans (h.2.2 k' h')⟩
theorem FX.uF {A : List Nat} {σ τ : St} {k j : Nat} {v : Int} (h : FX A σ τ) (hk : k ∈ A) : FX A σ (uF τ k j v) := ⟨h.1, h.2.1, fun k' h' => (uF_cell fun e => h' (by rw [e]; exact hk)).trans (h.2.2 k' h')⟩
theorem FM.uI {A J : List Nat} {σ τ : St} {k : Nat} {i v : Int} (h : FM A J σ τ) (h1 : k ≠ 1) (hk : k ∈ A) : FM A J σ (uI τ k i v) := ⟨h.1, h.2.1, fun k' g' h' => (uI_cell fun e => h' (by rw [e]; exact hk)).trans (h.2.2.1 k' g' h'), fun j hj => (fI_uk (Ne.symm h1)).trans (h.2.2.2 j hj)⟩
theorem FM.uF {A J : List Nat} {σ τ : St} {j : Nat} {v : Int} (h : FM A J σ τ) (hj : j ∈ J) : FM A J σ (uF τ 1 j v) := ⟨h.1, h.2.1, fun k' g' h' => (uF_cell g').trans (h.2.2.1 k' g' h'), fun j' hj' => (fI_j fun e => hj' (by rw [e]; exact hj)).trans (h.2.2.2 j' hj')⟩
theorem FX.X {A : List Nat} {σ τ : St} (h : FX A σ τ) (hX : WXr σ.1 σ.2.2) : WXr τ.1 τ.2.2 := by rw [h.1, h.2.1]; exact hX
theorem FM.M {A J : List Nat} {σ τ : St} (h : FM A J σ τ) (hM : WMr σ.1 σ.2.2) : WMr τ.1 τ.2.2 := by rw [h.1, h.2.1]; exact hM
theorem FX.f {A : List Nat} {σ τ : St} (h : FX A σ τ) {k j : Nat} (hk : k ∉ A) : fI τ k j = fI σ k j := congrFun (h.2.2 k hk) _
theorem FX.c {A : List Nat} {σ τ : St} (h : FX A σ τ) {k : Nat} {i : Int} (hk : k ∉ A) : τ.2.1 k i = σ.2.1 k i := congrFun (h.2.2 k hk) _
theorem FM.c {A J : List Nat} {σ τ : St} (h : FM A J σ τ) {k : Nat} {i : Int} (h1 : k ≠ 1) (hk : k ∉ A) : τ.2.1 k i = σ.2.1 k i := congrFun (h.2.2.1 k h1 hk) _
theorem FM.f {A J : List Nat} {σ τ : St} (h : FM A J σ τ) {j : Nat} (hj : j ∉ J) : fI τ 1 j = fI σ 1 j := h.2.2.2 j hj
/-- the machine's and a treaty's cells -/
def mOff (j : Nat) : Option Nat := match j with
  | 2 => some 1
  | 3 => some 2
  | 4 => some 3
  | 5 => some 4
  | 6 => some 5
  | 8 => some 6
  | 9 => some 7
  | 10 => some 8
  | 12 => some 9
  | 13 => some 10
  | 14 => some 11
  | 16 => some 12
  | 17 => some 13
  | 19 => some 14
  | _ => none
def mShp (d : Nat) : Option (Nat × Nat) := match d with
  | 1 => some (2, 12)
  | 2 => some (1, 12)
  | 3 => some (1, 12)
  | 4 => some (1, 12)
  | 5 => some (1, 12)
  | 6 => some (1, 16)
  | 7 => some (1, 16)
  | 8 => some (1, 16)
  | 9 => some (1, 16)
  | 10 => some (1, 16)
  | 11 => some (1, 16)
  | 12 => some (1, 3)
  | 13 => some (1, 3)
  | 14 => some (1, 64)
  | _ => none
def tOff (j : Nat) : Option Nat := match j with
  | 3 => some 1
  | 4 => some 2
  | 5 => some 3
  | 6 => some 4
  | 7 => some 5
  | _ => none
def tShp (d : Nat) : Option (Nat × Nat) := match d with
  | 1 => some (1, 700)
  | 2 => some (1, 4)
  | 3 => some (1, 4)
  | 4 => some (1, 60)
  | 5 => some (1, 11)
  | _ => none
def isM (m : Nat) : Prop := m = 8 ∨ m = 23
def isT (t : Nat) : Prop := t = 40 ∨ t = 46 ∨ t = 52 ∨ t = 58
theorem isM_le {m : Nat} (h : isM m) : 8 ≤ m ∧ m ≤ 23 := by unfold isM at h; omega
theorem isT_le {m : Nat} (h : isT m) : 40 ≤ m ∧ m ≤ 58 := by unfold isT at h; omega
theorem mOff_le {j d : Nat} (h : mOff j = some d) : 1 ≤ d ∧ d ≤ 14 := by
  unfold mOff at h; split at h <;> first | (cases h; omega) | (cases h)
theorem mShp_le {d : Nat} {s : Nat × Nat} (h : mShp d = some s) : 1 ≤ d ∧ d ≤ 14 := by
  unfold mShp at h; split at h <;> first | omega | (cases h)
theorem tOff_le {j d : Nat} (h : tOff j = some d) : 1 ≤ d ∧ d ≤ 5 := by
  unfold tOff at h; split at h <;> first | (cases h; omega) | (cases h)
theorem tShp_le {d : Nat} {s : Nat × Nat} (h : tShp d = some s) : 1 ≤ d ∧ d ≤ 5 := by
  unfold tShp at h; split at h <;> first | omega | (cases h)
theorem m_shp {m : Nat} (h : isM m) : shp shx m = (0, 3) := by rcases h with rfl | rfl <;> rfl
theorem t_shp {m : Nat} (h : isT m) : shp shx m = (0, 7) := by rcases h with rfl | rfl | rfl | rfl <;> rfl
theorem m_shpA {m d : Nat} {s : Nat × Nat} (h : isM m) (e : mShp d = some s) : shp shx (m + d) = s := by
  unfold mShp at e
  rcases h with rfl | rfl <;> split at e <;> first | (cases e; rfl) | (cases e)
theorem t_shpA {m d : Nat} {s : Nat × Nat} (h : isT m) (e : tShp d = some s) : shp shx (m + d) = s := by
  unfold tShp at e
  rcases h with rfl | rfl | rfl | rfl <;> split at e <;> first | (cases e; rfl) | (cases e)
theorem m_ref {n : Nat} {r : Nat → Int → Nat} (hX : WXr n r) {m j d : Nat} (h : isM m) (e : mOff j = some d) : r m (j : Int) = m + d := by
  unfold mOff at e
  rcases h with rfl | rfl <;> split at e <;> first | (cases e; exact hX.2 _ _ _ rfl) | (cases e)
theorem t_ref {n : Nat} {r : Nat → Int → Nat} (hX : WXr n r) {m j d : Nat} (h : isT m) (e : tOff j = some d) : r m (j : Int) = m + d := by
  unfold tOff at e
  rcases h with rfl | rfl | rfl | rfl <;> split at e <;> first | (cases e; exact hX.2 _ _ _ rfl) | (cases e)
section Steps
variable {α : Type} {σ : St} {Q : α → Prop}
theorem sx_gI {ci k j : Nat} {f : Int → Option α} (hX : WXr σ.1 σ.2.2) (hs : shp shx k = (0, ci)) (hk : Nat.ble k 113 = true) (h : Ok (f (fI σ k j)) Q) : Ok (Option.bind (gI shx σ ci k j) f) Q := by
  unfold gI; rw [if_pos ⟨hs, by rw [hX.1]; exact Nat.le_of_ble_eq_true hk⟩]; exact h
theorem sx_gR {ci k j v : Nat} {f : Nat → Option α} (hX : WXr σ.1 σ.2.2) (hs : shp shx k = (0, ci)) (hk : Nat.ble k 113 = true) (e : rxT k j = some v) (h : Ok (f v) Q) : Ok (Option.bind (gR shx σ ci k j) f) Q := by
  unfold gR; rw [if_pos ⟨hs, by rw [hX.1]; exact Nat.le_of_ble_eq_true hk⟩, hX.2 k j v e]; exact h
theorem sx_gRe {ci k j v : Nat} {f : Nat → Option α} (hX : WXr σ.1 σ.2.2) (hs : shp shx k = (0, ci)) (hk : Nat.ble k 113 = true) (e : σ.2.2 k (j : Int) = v) (h : Ok (f v) Q) : Ok (Option.bind (gR shx σ ci k j) f) Q := by
  unfold gR; rw [if_pos ⟨hs, by rw [hX.1]; exact Nat.le_of_ble_eq_true hk⟩, e]; exact h
theorem sx_pI {ci k j : Nat} {v : Int} {f : St → Option α} (hX : WXr σ.1 σ.2.2) (hs : shp shx k = (0, ci)) (hk : Nat.ble k 113 = true) (h : Ok (f (uF σ k j v)) Q) : Ok (Option.bind (pI shx σ ci k j v) f) Q := by
  unfold pI; rw [if_pos ⟨hs, by rw [hX.1]; exact Nat.le_of_ble_eq_true hk⟩]; exact h
theorem sx_rcv {ci k : Nat} {P : Option (St × Int)} {f : St × Int → Option α} (hX : WXr σ.1 σ.2.2) (hs : shp shx k = (0, ci)) (hk : Nat.ble k 113 = true) (h : Ok (Option.bind P f) Q) : Ok (Option.bind (rcv shx σ ci k P) f) Q := by
  unfold rcv; rw [if_pos ⟨hs, by rw [hX.1]; exact Nat.le_of_ble_eq_true hk⟩]; exact h
theorem sx_aI {t k n : Nat} {i : Int} {f : Int → Option α} (hX : WXr σ.1 σ.2.2) (hs : shp shx k = (t, n)) (hk : Nat.ble k 113 = true) (hn : n < 2147483648) (h0 : 0 ≤ i) (h1 : i < (n : Int)) (h : Ok (f (σ.2.1 k i)) Q) : Ok (Option.bind (aI shx σ t k i) f) Q := by
  have e : wr i = i := wr_id (by omega) (by omega)
  unfold aI; rw [e, if_pos ⟨by rw [hs], by rw [hX.1]; exact Nat.le_of_ble_eq_true hk, h0, by rw [hs]; exact h1⟩]; exact h
theorem sx_sI {t k n : Nat} {i v : Int} {f : St → Option α} (hX : WXr σ.1 σ.2.2) (hs : shp shx k = (t, n)) (hk : Nat.ble k 113 = true) (hn : n < 2147483648) (h0 : 0 ≤ i) (h1 : i < (n : Int)) (h : Ok (f (uI σ k i v)) Q) : Ok (Option.bind (sI shx σ t k i v) f) Q := by
  have e : wr i = i := wr_id (by omega) (by omega)
  unfold sI; rw [e, if_pos ⟨by rw [hs], by rw [hX.1]; exact Nat.le_of_ble_eq_true hk, h0, by rw [hs]; exact h1⟩]; exact h
theorem sx_aR {t k n v : Nat} {i : Int} {f : Nat → Option α} (hX : WXr σ.1 σ.2.2) (hs : shp shx k = (t, n)) (hk : Nat.ble k 113 = true) (hn : n < 2147483648) (h0 : 0 ≤ i) (h1 : i < (n : Int)) (e2 : σ.2.2 k i = v) (h : Ok (f v) Q) : Ok (Option.bind (aR shx σ t k i) f) Q := by
  have e : wr i = i := wr_id (by omega) (by omega)
  unfold aR; rw [e, if_pos ⟨by rw [hs], by rw [hX.1]; exact Nat.le_of_ble_eq_true hk, h0, by rw [hs]; exact h1⟩, e2]; exact h
/-- the machine in use -/
theorem sx_gR1 {m : Nat} {f : Nat → Option α} (hX : WXr σ.1 σ.2.2) (e : σ.2.2 1 ((1 : Nat) : Int) = m) (h : Ok (f m) Q) : Ok (Option.bind (gR shx σ 11 1 1) f) Q := sx_gRe hX rfl rfl e h
theorem mx_gI {m j : Nat} {f : Int → Option α} (hX : WXr σ.1 σ.2.2) (hm : isM m) (h : Ok (f (fI σ m j)) Q) : Ok (Option.bind (gI shx σ 3 m j) f) Q :=
  sx_gI hX (m_shp hm) (Nat.ble_eq_true_of_le (by have := isM_le hm; omega)) h
theorem mx_gR {m j d : Nat} {f : Nat → Option α} (hX : WXr σ.1 σ.2.2) (hm : isM m) (e : mOff j = some d) (h : Ok (f (m + d)) Q) : Ok (Option.bind (gR shx σ 3 m j) f) Q :=
  sx_gRe hX (m_shp hm) (Nat.ble_eq_true_of_le (by have := isM_le hm; omega)) (m_ref hX hm e) h
theorem mx_pI {m j : Nat} {v : Int} {f : St → Option α} (hX : WXr σ.1 σ.2.2) (hm : isM m) (h : Ok (f (uF σ m j v)) Q) : Ok (Option.bind (pI shx σ 3 m j v) f) Q :=
  sx_pI hX (m_shp hm) (Nat.ble_eq_true_of_le (by have := isM_le hm; omega)) h
theorem mx_rcv {m : Nat} {P : Option (St × Int)} {f : St × Int → Option α} (hX : WXr σ.1 σ.2.2) (hm : isM m) (h : Ok (Option.bind P f) Q) : Ok (Option.bind (rcv shx σ 3 m P) f) Q :=
  sx_rcv hX (m_shp hm) (Nat.ble_eq_true_of_le (by have := isM_le hm; omega)) h
theorem mx_aI {t m d n : Nat} {i : Int} {f : Int → Option α} (hX : WXr σ.1 σ.2.2) (hm : isM m) (e : mShp d = some (t, n)) (hn : n < 2147483648) (h0 : 0 ≤ i) (h1 : i < (n : Int)) (h : Ok (f (σ.2.1 (m + d) i)) Q) : Ok (Option.bind (aI shx σ t (m + d) i) f) Q :=
  sx_aI hX (m_shpA hm e) (Nat.ble_eq_true_of_le (by have := isM_le hm; have := mShp_le e; omega)) hn h0 h1 h
theorem mx_sI {t m d n : Nat} {i v : Int} {f : St → Option α} (hX : WXr σ.1 σ.2.2) (hm : isM m) (e : mShp d = some (t, n)) (hn : n < 2147483648) (h0 : 0 ≤ i) (h1 : i < (n : Int)) (h : Ok (f (uI σ (m + d) i v)) Q) : Ok (Option.bind (sI shx σ t (m + d) i v) f) Q :=
  sx_sI hX (m_shpA hm e) (Nat.ble_eq_true_of_le (by have := isM_le hm; have := mShp_le e; omega)) hn h0 h1 h
theorem tx_gI {m j : Nat} {f : Int → Option α} (hX : WXr σ.1 σ.2.2) (hm : isT m) (h : Ok (f (fI σ m j)) Q) : Ok (Option.bind (gI shx σ 7 m j) f) Q :=
  sx_gI hX (t_shp hm) (Nat.ble_eq_true_of_le (by have := isT_le hm; omega)) h
theorem tx_gR {m j d : Nat} {f : Nat → Option α} (hX : WXr σ.1 σ.2.2) (hm : isT m) (e : tOff j = some d) (h : Ok (f (m + d)) Q) : Ok (Option.bind (gR shx σ 7 m j) f) Q :=
  sx_gRe hX (t_shp hm) (Nat.ble_eq_true_of_le (by have := isT_le hm; omega)) (t_ref hX hm e) h
theorem tx_pI {m j : Nat} {v : Int} {f : St → Option α} (hX : WXr σ.1 σ.2.2) (hm : isT m) (h : Ok (f (uF σ m j v)) Q) : Ok (Option.bind (pI shx σ 7 m j v) f) Q :=
  sx_pI hX (t_shp hm) (Nat.ble_eq_true_of_le (by have := isT_le hm; omega)) h
theorem tx_rcv {m : Nat} {P : Option (St × Int)} {f : St × Int → Option α} (hX : WXr σ.1 σ.2.2) (hm : isT m) (h : Ok (Option.bind P f) Q) : Ok (Option.bind (rcv shx σ 7 m P) f) Q :=
  sx_rcv hX (t_shp hm) (Nat.ble_eq_true_of_le (by have := isT_le hm; omega)) h
theorem tx_aI {t m d n : Nat} {i : Int} {f : Int → Option α} (hX : WXr σ.1 σ.2.2) (hm : isT m) (e : tShp d = some (t, n)) (hn : n < 2147483648) (h0 : 0 ≤ i) (h1 : i < (n : Int)) (h : Ok (f (σ.2.1 (m + d) i)) Q) : Ok (Option.bind (aI shx σ t (m + d) i) f) Q :=
  sx_aI hX (t_shpA hm e) (Nat.ble_eq_true_of_le (by have := isT_le hm; have := tShp_le e; omega)) hn h0 h1 h
theorem tx_sI {t m d n : Nat} {i v : Int} {f : St → Option α} (hX : WXr σ.1 σ.2.2) (hm : isT m) (e : tShp d = some (t, n)) (hn : n < 2147483648) (h0 : 0 ≤ i) (h1 : i < (n : Int)) (h : Ok (f (uI σ (m + d) i v)) Q) : Ok (Option.bind (sI shx σ t (m + d) i v) f) Q :=
  sx_sI hX (t_shpA hm e) (Nat.ble_eq_true_of_le (by have := isT_le hm; have := tShp_le e; omega)) hn h0 h1 h
/-- the reference's world -/
theorem sm_gI {j : Nat} {f : Int → Option α} (hM : WMr σ.1 σ.2.2) (h : Ok (f (fI σ 1 j)) Q) : Ok (Option.bind (gI shm σ 12 1 j) f) Q := by
  unfold gI; rw [if_pos ⟨rfl, by rw [hM.1]; decide⟩]; exact h
theorem sm_gR {j v : Nat} {f : Nat → Option α} (hM : WMr σ.1 σ.2.2) (e : rmT j = some v) (h : Ok (f v) Q) : Ok (Option.bind (gR shm σ 12 1 j) f) Q := by
  unfold gR; rw [if_pos ⟨rfl, by rw [hM.1]; decide⟩, hM.2 j v e]; exact h
theorem sm_pI {j : Nat} {v : Int} {f : St → Option α} (hM : WMr σ.1 σ.2.2) (h : Ok (f (uF σ 1 j v)) Q) : Ok (Option.bind (pI shm σ 12 1 j v) f) Q := by
  unfold pI; rw [if_pos ⟨rfl, by rw [hM.1]; decide⟩]; exact h
theorem sm_rcv {P : Option (St × Int)} {f : St × Int → Option α} (hM : WMr σ.1 σ.2.2) (h : Ok (Option.bind P f) Q) : Ok (Option.bind (rcv shm σ 12 1 P) f) Q := by
  unfold rcv; rw [if_pos ⟨rfl, by rw [hM.1]; decide⟩]; exact h
theorem sm_aI {t k n : Nat} {i : Int} {f : Int → Option α} (hM : WMr σ.1 σ.2.2) (hs : shp shm k = (t, n)) (hk : Nat.ble k 51 = true) (hn : n < 2147483648) (h0 : 0 ≤ i) (h1 : i < (n : Int)) (h : Ok (f (σ.2.1 k i)) Q) : Ok (Option.bind (aI shm σ t k i) f) Q := by
  have e : wr i = i := wr_id (by omega) (by omega)
  unfold aI; rw [e, if_pos ⟨by rw [hs], by rw [hM.1]; exact Nat.le_of_ble_eq_true hk, h0, by rw [hs]; exact h1⟩]; exact h
theorem sm_sI {t k n : Nat} {i v : Int} {f : St → Option α} (hM : WMr σ.1 σ.2.2) (hs : shp shm k = (t, n)) (hk : Nat.ble k 51 = true) (hn : n < 2147483648) (h0 : 0 ≤ i) (h1 : i < (n : Int)) (h : Ok (f (uI σ k i v)) Q) : Ok (Option.bind (sI shm σ t k i v) f) Q := by
  have e : wr i = i := wr_id (by omega) (by omega)
  unfold sI; rw [e, if_pos ⟨by rw [hs], by rw [hM.1]; exact Nat.le_of_ble_eq_true hk, h0, by rw [hs]; exact h1⟩]; exact h
/-- reads behind writes -/
theorem gI_uF {S : List Sp} {ci k j k' j' : Nat} {v : Int} (h : k ≠ k' ∨ j ≠ j') : gI S (uF σ k' j' v) ci k j = gI S σ ci k j := by
  unfold gI
  have e : (uF σ k' j' v).2.1 k (j : Int) = σ.2.1 k (j : Int) := by
    rcases h with h | h
    · exact fI_k h
    · exact fI_j h
  rw [e]; rfl
theorem gI_uI {S : List Sp} {ci k j k' : Nat} {i v : Int} (h : k ≠ k') : gI S (uI σ k' i v) ci k j = gI S σ ci k j := by
  unfold gI; rw [uI_k h]; rfl
theorem aI_uF {S : List Sp} {t k k' j' : Nat} {i v : Int} (h : k ≠ k') : aI S (uF σ k' j' v) t k i = aI S σ t k i := by
  unfold aI; rw [uF_k h]; rfl
theorem aI_uI {S : List Sp} {t k k' : Nat} {i i' v : Int} (h : k ≠ k') : aI S (uI σ k' i' v) t k i = aI S σ t k i := by
  unfold aI; rw [uI_k h]; rfl
theorem ok_gF_k {S : List Sp} {ci k j k' j' : Nat} {v : Int} {f : Int → Option α} (h : k ≠ k') (H : Ok (Option.bind (gI S σ ci k j) f) Q) : Ok (Option.bind (gI S (uF σ k' j' v) ci k j) f) Q := by rw [gI_uF (.inl h)]; exact H
theorem ok_gF_j {S : List Sp} {ci k j k' j' : Nat} {v : Int} {f : Int → Option α} (h : j ≠ j') (H : Ok (Option.bind (gI S σ ci k j) f) Q) : Ok (Option.bind (gI S (uF σ k' j' v) ci k j) f) Q := by rw [gI_uF (.inr h)]; exact H
theorem ok_gU_k {S : List Sp} {ci k j k' : Nat} {i v : Int} {f : Int → Option α} (h : k ≠ k') (H : Ok (Option.bind (gI S σ ci k j) f) Q) : Ok (Option.bind (gI S (uI σ k' i v) ci k j) f) Q := by rw [gI_uI h]; exact H
theorem ok_aF_k {S : List Sp} {t k k' j' : Nat} {i v : Int} {f : Int → Option α} (h : k ≠ k') (H : Ok (Option.bind (aI S σ t k i) f) Q) : Ok (Option.bind (aI S (uF σ k' j' v) t k i) f) Q := by rw [aI_uF h]; exact H
theorem ok_aU_k {S : List Sp} {t k k' : Nat} {i i' v : Int} {f : Int → Option α} (h : k ≠ k') (H : Ok (Option.bind (aI S σ t k i) f) Q) : Ok (Option.bind (aI S (uI σ k' i' v) t k i) f) Q := by rw [aI_uI h]; exact H
theorem ok_rF {S : List Sp} {ci k j k' j' : Nat} {v : Int} {f : Nat → Option α} (H : Ok (Option.bind (gR S σ ci k j) f) Q) : Ok (Option.bind (gR S (uF σ k' j' v) ci k j) f) Q := H
theorem ok_rU {S : List Sp} {ci k j k' : Nat} {i v : Int} {f : Nat → Option α} (H : Ok (Option.bind (gR S σ ci k j) f) Q) : Ok (Option.bind (gR S (uI σ k' i v) ci k j) f) Q := H
theorem ok_qF {S : List Sp} {t k k' j' : Nat} {i v : Int} {f : Nat → Option α} (H : Ok (Option.bind (aR S σ t k i) f) Q) : Ok (Option.bind (aR S (uF σ k' j' v) t k i) f) Q := H
theorem ok_qU {S : List Sp} {t k k' : Nat} {i i' v : Int} {f : Nat → Option α} (H : Ok (Option.bind (aR S σ t k i) f) Q) : Ok (Option.bind (aR S (uI σ k' i' v) t k i) f) Q := H
theorem ok_gF_hit {ci k j : Nat} {v : Int} {f : Int → Option α} (hX : WXr σ.1 σ.2.2) (hs : shp shx k = (0, ci)) (hk : Nat.ble k 113 = true) (h : Ok (f v) Q) : Ok (Option.bind (gI shx (uF σ k j v) ci k j) f) Q :=
  sx_gI (σ := uF σ k j v) hX hs hk (by rw [fI_eq]; exact h)
theorem om_gF_hit {j : Nat} {v : Int} {f : Int → Option α} (hM : WMr σ.1 σ.2.2) (h : Ok (f v) Q) : Ok (Option.bind (gI shm (uF σ 1 j v) 12 1 j) f) Q :=
  sm_gI (σ := uF σ 1 j v) hM (by rw [fI_eq]; exact h)
theorem mx_gF_hit {m j : Nat} {v : Int} {f : Int → Option α} (hX : WXr σ.1 σ.2.2) (hm : isM m) (h : Ok (f v) Q) : Ok (Option.bind (gI shx (uF σ m j v) 3 m j) f) Q :=
  mx_gI (σ := uF σ m j v) hX hm (by rw [fI_eq]; exact h)
theorem tx_gF_hit {m j : Nat} {v : Int} {f : Int → Option α} (hX : WXr σ.1 σ.2.2) (hm : isT m) (h : Ok (f v) Q) : Ok (Option.bind (gI shx (uF σ m j v) 7 m j) f) Q :=
  tx_gI (σ := uF σ m j v) hX hm (by rw [fI_eq]; exact h)
/-- ways that part -/
def rg (a : Int) : Prop := -2147483648 ≤ a ∧ a < 2147483648
theorem ok_z0 {x y : Option α} (h : Ok x Q) : Ok (if wr 0 = 0 then x else y) Q := h
theorem ok_z1 {x y : Option α} (h : Ok y Q) : Ok (if wr 1 = 0 then x else y) Q := h
theorem ok_rZ {σ : St} {v : Int} {Q : St × Int → Prop} (h : v = 0 ∨ v = 1) (k : Q (σ, v)) : Ok (rZ σ v) Q := by
  rcases h with rfl | rfl <;> exact ok_some k
theorem ok_wlt {a b : Int} {x y : Option α} (ha : -2147483648 ≤ a ∧ a < 2147483648) (hb : -2147483648 ≤ b ∧ b < 2147483648) (h1 : a < b → Ok x Q) (h2 : b ≤ a → Ok y Q) : Ok (if wr a < wr b then x else y) Q := by
  rw [wr_id ha.1 ha.2, wr_id hb.1 hb.2]; exact ok_ite h1 fun h => h2 (by omega)
theorem ok_wltp {a b : Int} {x y : Option α} (ha : -2147483648 ≤ a ∧ a < 2147483648) (hb : -2147483648 ≤ b ∧ b < 2147483648) (h : a < b) (h1 : Ok x Q) : Ok (if wr a < wr b then x else y) Q := by
  rw [wr_id ha.1 ha.2, wr_id hb.1 hb.2]; exact ok_pos h h1
theorem ok_wltn {a b : Int} {x y : Option α} (ha : -2147483648 ≤ a ∧ a < 2147483648) (hb : -2147483648 ≤ b ∧ b < 2147483648) (h : b ≤ a) (h1 : Ok y Q) : Ok (if wr a < wr b then x else y) Q := by
  rw [wr_id ha.1 ha.2, wr_id hb.1 hb.2]; exact ok_neg (by omega) h1
theorem ok_wlt0 {a : Int} {x y : Option α} (ha : -2147483648 ≤ a ∧ a < 2147483648) (h1 : a < 0 → Ok x Q) (h2 : 0 ≤ a → Ok y Q) : Ok (if wr a < 0 then x else y) Q := by
  rw [wr_id ha.1 ha.2]; exact ok_ite h1 fun h => h2 (by omega)
theorem ok_w0lt {a : Int} {x y : Option α} (ha : -2147483648 ≤ a ∧ a < 2147483648) (h1 : 0 < a → Ok x Q) (h2 : a ≤ 0 → Ok y Q) : Ok (if 0 < wr a then x else y) Q := by
  rw [wr_id ha.1 ha.2]; exact ok_ite h1 fun h => h2 (by omega)
theorem ok_weq {a b : Int} {x y : Option α} (ha : -2147483648 ≤ a ∧ a < 2147483648) (hb : -2147483648 ≤ b ∧ b < 2147483648) (h1 : a = b → Ok x Q) (h2 : a ≠ b → Ok y Q) : Ok (if wr a = wr b then x else y) Q := by
  rw [wr_id ha.1 ha.2, wr_id hb.1 hb.2]; exact ok_ite h1 h2
theorem ok_weqc {a c : Int} {x y : Option α} (ha : -2147483648 ≤ a ∧ a < 2147483648) (h1 : a = c → Ok x Q) (h2 : a ≠ c → Ok y Q) : Ok (if wr a = c then x else y) Q := by
  rw [wr_id ha.1 ha.2]; exact ok_ite h1 h2
/-- within: one number of two -/
theorem within_eq (N : Nat) (σ : St) (v lo hi : Int) : f_X11_within N σ v lo hi = some (σ, if wr lo ≤ wr v ∧ wr v ≤ wr hi then 1 else 0) := by
  unfold f_X11_within
  by_cases h1 : wr v < wr lo
  · rw [if_pos h1, if_neg (by omega)]
  · rw [if_neg h1]
    by_cases h2 : wr hi < wr v
    · rw [if_pos h2, if_neg (by omega)]
    · rw [if_neg h2, if_pos (by omega)]
theorem within_in {N : Nat} {σ : St} {v lo hi : Int} (a : -2147483648 ≤ v ∧ v < 2147483648) (b : -2147483648 ≤ lo ∧ lo < 2147483648) (c : -2147483648 ≤ hi ∧ hi < 2147483648) (h : lo ≤ v ∧ v ≤ hi) : f_X11_within N σ v lo hi = some (σ, 1) := by
  rw [within_eq, wr_id a.1 a.2, wr_id b.1 b.2, wr_id c.1 c.2, if_pos h]
theorem within_out {N : Nat} {σ : St} {v lo hi : Int} (a : -2147483648 ≤ v ∧ v < 2147483648) (b : -2147483648 ≤ lo ∧ lo < 2147483648) (c : -2147483648 ≤ hi ∧ hi < 2147483648) (h : v < lo ∨ hi < v) : f_X11_within N σ v lo hi = some (σ, 0) := by
  rw [within_eq, wr_id a.1 a.2, wr_id b.1 b.2, wr_id c.1 c.2, if_neg (by omega)]
theorem ok_within {N : Nat} {v lo hi : Int} {f : St × Int → Option α} (a : -2147483648 ≤ v ∧ v < 2147483648) (b : -2147483648 ≤ lo ∧ lo < 2147483648) (c : -2147483648 ≤ hi ∧ hi < 2147483648) (h1 : lo ≤ v ∧ v ≤ hi → Ok (f (σ, 1)) Q) (h2 : (v < lo ∨ hi < v) → Ok (f (σ, 0)) Q) : Ok (Option.bind (f_X11_within N σ v lo hi) f) Q := by
  by_cases h : lo ≤ v ∧ v ≤ hi
  · rw [within_in a b c h]; exact h1 h
  · rw [within_out a b c (by omega)]; exact h2 (by omega)
theorem ok_tongue {N : Nat} {v : Int} {f : St × Int → Option α} (a : -2147483648 ≤ v ∧ v < 2147483648) (h1 : 0 ≤ v ∧ v ≤ 2 → Ok (f (σ, 1)) Q) (h2 : (v < 0 ∨ 2 < v) → Ok (f (σ, 0)) Q) : Ok (Option.bind (f_X11_isTongue N σ v) f) Q := by
  unfold f_X11_isTongue
  by_cases h : 0 ≤ v ∧ v ≤ 2
  · rw [within_in a (by omega) (by omega) h]; exact h1 h
  · rw [within_out a (by omega) (by omega) (by omega)]; exact h2 (by omega)
theorem ok_month {N : Nat} {v : Int} {f : St × Int → Option α} (a : -2147483648 ≤ v ∧ v < 2147483648) (h1 : 0 ≤ v ∧ v ≤ 199 → Ok (f (σ, 1)) Q) (h2 : (v < 0 ∨ 199 < v) → Ok (f (σ, 0)) Q) : Ok (Option.bind (f_X11_isMonth N σ v) f) Q := by
  unfold f_X11_isMonth
  by_cases h : 0 ≤ v ∧ v ≤ 199
  · rw [within_in a (by omega) (by omega) h]; exact h1 h
  · rw [within_out a (by omega) (by omega) (by omega)]; exact h2 (by omega)
theorem ok_money {N : Nat} {v : Int} {f : St × Int → Option α} (a : -2147483648 ≤ v ∧ v < 2147483648) (h1 : 0 ≤ v ∧ v ≤ 30 → Ok (f (σ, 1)) Q) (h2 : (v < 0 ∨ 30 < v) → Ok (f (σ, 0)) Q) : Ok (Option.bind (f_X11_isMoney N σ v) f) Q := by
  unfold f_X11_isMoney
  by_cases h : 0 ≤ v ∧ v ≤ 30
  · rw [within_in a (by omega) (by omega) h]; exact h1 h
  · rw [within_out a (by omega) (by omega) (by omega)]; exact h2 (by omega)
theorem isIn_eq (N : Nat) (σ : St) (v lo hi : Int) : f_X12_isIn N σ v lo hi = some (σ, if wr lo ≤ wr v ∧ wr v ≤ wr hi then 1 else 0) := by
  unfold f_X12_isIn
  by_cases h1 : wr v < wr lo
  · rw [if_pos h1, if_neg (by omega)]
  · rw [if_neg h1]
    by_cases h2 : wr hi < wr v
    · rw [if_pos h2, if_neg (by omega)]
    · rw [if_neg h2, if_pos (by omega)]
theorem ok_isIn {N : Nat} {v lo hi : Int} {f : St × Int → Option α} (a : -2147483648 ≤ v ∧ v < 2147483648) (b : -2147483648 ≤ lo ∧ lo < 2147483648) (c : -2147483648 ≤ hi ∧ hi < 2147483648) (h1 : lo ≤ v ∧ v ≤ hi → Ok (f (σ, 1)) Q) (h2 : (v < lo ∨ hi < v) → Ok (f (σ, 0)) Q) : Ok (Option.bind (f_X12_isIn N σ v lo hi) f) Q := by
  by_cases h : lo ≤ v ∧ v ≤ hi
  · rw [isIn_eq, wr_id a.1 a.2, wr_id b.1 b.2, wr_id c.1 c.2, if_pos h]; exact h1 h
  · rw [isIn_eq, wr_id a.1 a.2, wr_id b.1 b.2, wr_id c.1 c.2, if_neg h]; exact h2 (by omega)
end Steps
theorem wr_rg {a : Int} (h : wr a = a) : -2147483648 ≤ a ∧ a < 2147483648 := by have := wr_lo a; have := wr_hi a; omega
theorem mnZ_eq {a b : Int} (ha : -2147483648 ≤ a ∧ a < 2147483648) (hb : -2147483648 ≤ b ∧ b < 2147483648) : mnZ a b = if b < a then b else a := by unfold mnZ; rw [wr_id ha.1 ha.2, wr_id hb.1 hb.2]
theorem mxZ_eq {a b : Int} (ha : -2147483648 ≤ a ∧ a < 2147483648) (hb : -2147483648 ≤ b ∧ b < 2147483648) : mxZ a b = if a < b then b else a := by unfold mxZ; rw [wr_id ha.1 ha.2, wr_id hb.1 hb.2]
theorem abZ_eq {a : Int} (ha : -2147483648 ≤ a ∧ a < 2147483648) : abZ a = if 0 ≤ a then a else 0 - a := by unfold abZ; rw [wr_id ha.1 ha.2]
/-- two loops, step by step -/
theorem ok_fix2 {T U α β : Type} {N : Nat} {F : (T → Option α) → T → Option α} {G : (U → Option β) → U → Option β} {Q : α → β → Prop} (I : T → U → Prop) (μ : T → Nat)
    (h : ∀ (b1 : T → Option α) (b2 : U → Option β) (t : T) (u : U), I t u → (∀ t' u', I t' u' → μ t' < μ t → Ok (b1 t') (fun v => Ok (b2 u') (Q v))) → Ok (F b1 t) (fun v => Ok (G b2 u) (Q v))) (t : T) (u : U) (hi : I t u) (hN : μ t < N) : Ok (fixN N F t) (fun v => Ok (fixN N G u) (Q v)) := by
  induction N generalizing t u with
  | zero => omega
  | succ n ih => exact h _ _ t u hi fun t' u' h1 h2 => ih t' u' h1 (by omega)
theorem ok2_of {Inv : St → St → Prop} {px pm : Option (St × Int)} (h : Ok px (fun v => Ok pm (fun w => wr v.2 = wr w.2 ∧ Inv v.1 w.1))) : OK2 Inv px pm := by
  obtain ⟨v, e, w, e2, h1, h2⟩ := h
  exact ⟨v.1, w.1, v.2, w.2, e, e2, h1, h2⟩
/-- a row filled -/
def uA (σ : St) (k n : Nat) (v : Int) : St := (σ.1, fun k' j => if k' = k ∧ 0 ≤ j ∧ j < (n : Int) then v else σ.2.1 k' j, σ.2.2)
theorem uA_k {σ : St} {k k' n : Nat} {i v : Int} (h : k ≠ k') : (uA σ k' n v).2.1 k i = σ.2.1 k i := if_neg fun q => h q.1
theorem uA_cell {σ : St} {k k' n : Nat} {v : Int} (h : k ≠ k') : (uA σ k' n v).2.1 k = σ.2.1 k := by funext i'; exact uA_k h
theorem uA_in {σ : St} {k n : Nat} {i v : Int} (h : 0 ≤ i ∧ i < (n : Int)) : (uA σ k n v).2.1 k i = v := if_pos ⟨rfl, h⟩
theorem uA_0 {σ : St} {k : Nat} {v : Int} : uA σ k 0 v = σ := by
  unfold uA
  have : (fun k' (j : Int) => if k' = k ∧ 0 ≤ j ∧ j < ((0 : Nat) : Int) then v else σ.2.1 k' j) = σ.2.1 := by
    funext k' j; exact if_neg (by omega)
  rw [this]
theorem uA_succ {σ : St} {k n : Nat} {v : Int} : uI (uA σ k n v) k (n : Int) v = uA σ k (n + 1) v := by
  unfold uA uI
  have : (fun k' (j' : Int) => if k' = k ∧ j' = (n : Int) then v else if k' = k ∧ 0 ≤ j' ∧ j' < (n : Int) then v else σ.2.1 k' j') = (fun k' j => if k' = k ∧ 0 ≤ j ∧ j < ((n + 1 : Nat) : Int) then v else σ.2.1 k' j) := by
    funext k' j
    by_cases h1 : k' = k
    · by_cases h2 : j = (n : Int)
      · rw [if_pos ⟨h1, h2⟩, if_pos ⟨h1, by omega, by omega⟩]
      · rw [if_neg (fun q => h2 q.2)]
        by_cases h3 : 0 ≤ j ∧ j < (n : Int)
        · rw [if_pos ⟨h1, h3⟩, if_pos ⟨h1, by omega, by omega⟩]
        · rw [if_neg (fun q => h3 q.2), if_neg (fun q => h3 ⟨q.2.1, by omega⟩)]
    · rw [if_neg (fun q => h1 q.1), if_neg (fun q => h1 q.1), if_neg (fun q => h1 q.1)]
  exact congrArg (fun g => (σ.1, g, σ.2.2)) this
theorem FX.uA {A : List Nat} {σ τ : St} {k n : Nat} {v : Int} (h : FX A σ τ) (hk : k ∈ A) : FX A σ (uA τ k n v) := ⟨h.1, h.2.1, fun k' h' => (uA_cell fun e => h' (by rw [e]; exact hk)).trans (h.2.2 k' h')⟩
theorem fill_ok {N : Nat} {σ : St} {k n : Nat} {v : Int} (hs : shp shx k = (1, n)) (hk : k ≤ σ.1) (hn : n < 2147483648) (hN : n < N) : f_J7_fill_53178 N σ k v = some (uA σ k n v, 0) := by
  unfold f_J7_fill_53178 aL
  rw [if_pos ⟨by rw [hs]; exact Nat.le_refl 1, by rw [hs]; exact Nat.le_refl 1, hk⟩, hs]
  show L_J7_fill_53178_5 N k v (n : Int) (σ, 0) = _
  have H : Ok (L_J7_fill_53178_5 N k v (n : Int) (σ, 0)) (fun q => q = (uA σ k n v, 0)) := by
    unfold L_J7_fill_53178_5
    refine ok_fix (fun t => ∃ i : Nat, i ≤ n ∧ t = (uA σ k i v, (i : Int))) (fun t => n - t.2.toNat) (fun back t hI hb => ?_) (σ, 0) ⟨0, by omega, by rw [uA_0]; rfl⟩ (by show n - 0 < N; omega)
    obtain ⟨i, hi, rfl⟩ := hI
    refine ok_wlt (by show _ ∧ _; dsimp only; omega) (by omega) (fun h => ?_) (fun h => ?_)
    · dsimp only at h ⊢
      unfold sI
      have e : wr (i : Int) = (i : Int) := wr_id (by omega) (by omega)
      rw [e, if_pos ⟨by rw [hs], hk, by omega, by rw [hs]; exact h⟩]
      refine hb _ ⟨i + 1, by omega, ?_⟩ ?_
      · rw [uA_succ]; rfl
      · dsimp only; omega
    · dsimp only at h ⊢
      have : i = n := by omega
      subst this
      exact ok_some rfl
  obtain ⟨q, e, rfl⟩ := H
  exact e
