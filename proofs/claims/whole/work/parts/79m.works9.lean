/-! the pure part: WORKS, the reference's loop -/
section F
variable {N : Nat} {σ σm : St}
theorem seek86_eq {m : Nat} {bk : Int} (hI : IMach m bk σ σm) (hM : WMr σm.1 σm.2.2) {n : Nat} (hn : (n : Int) = fI σ m 1) {p : Int} (hp : 0 ≤ p ∧ p ≤ 100) {φ0 : St} {i0 : Int} (fφ : FM [47, 48] [84, 85, 86, 87] σm φ0) (h0 : HdW σ m n (RmW σ m p) φ0 i0) (hN : 1000 < N) (hμ : (Smw (φ0.2.1 47) n (i0 + 1).toNat).toNat < N) : Ok (L_X12_seekShared_86 N 1 p (Cw (cW σ m) n) (φ0, i0)) (fun w => FM [47, 48] [84, 85, 86, 87] σm w.1 ∧ BsW (cW σ m) n (RmW σ m p) (fun _ => True) w.1) := by
  have hP := hI.2.2.2.2.1.2.1
  have i4 := hI.2.2.2.1
  have en : (fI σ m 1).toNat = n := by omega
  have crg := Cw_rg hI n (by omega)
  have pc := mul_rg (a := p) (b := Cw (cW σ m) n) (x := 100) (y := 11988) hp (by omega)
  have eR : RmW σ m p = (100 * Cw (cW σ m) n - p * Cw (cW σ m) n) / 100 := by unfold RmW; rw [en, Int.sub_mul]
  have hc : ∀ j : Int, 0 ≤ j → j < (n : Int) → 0 ≤ cW σ m j ∧ cW σ m j ≤ 999 := fun j a b => (hI.2.2.2.2.2.1 j a (by omega)).2.2.2.2
  have hc0 : ∀ j : Int, 0 ≤ j → j < (n : Int) → 0 ≤ cW σ m j := fun j a b => (hc j a b).1
  have prt : ∀ {φ : St}, FM [47, 48] [84, 85, 86, 87] σm φ → f_X12_parts N φ 1 = some (φ, (n : Int)) := fun {φ} g => by
    rw [parts_eq (g.M hM) ((g.f (by decide)).trans hI.2.2.1) i4, g.2.2.1 5 (by decide) (by simp), hP.1, hn]
  unfold L_X12_seekShared_86
  refine ok_fix (fun w => FM [47, 48] [84, 85, 86, 87] σm w.1 ∧ HdW σ m n (RmW σ m p) w.1 w.2) (fun w => (Smw (w.1.2.1 47) n (w.2 + 1).toNat).toNat) (fun back w hw hback => ?_) _ ⟨fφ, h0⟩ hμ
  obtain ⟨φ, i⟩ := w
  obtain ⟨gF, hH⟩ := hw
  dsimp only at gF hH hback ⊢
  rcases hH with ⟨rfl, hB⟩ | ⟨k, rfl, hk, hdg, hdi, hSh, hB⟩
  · exact ok_wlt0 (by decide) (fun _ => ok_some ⟨gF, hB⟩) (fun q => by omega)
  generalize hmk : φ.2.1 47 = mk at hdg hdi hSh hB hback
  have hMφ := gF.M hM
  refine ok_wlt0 (by omega) (fun q => by omega) (fun _ => ?_)
  refine sm_gR hMφ rfl ?_
  refine sm_aI hMφ rfl rfl (by decide) (by omega) (by omega) ?_
  rw [hmk]
  have Qs : ∀ (h : Int → Int) (j : Nat), Qw h (j + 1) = 3 * Qw h j + h (j : Int) := fun _ _ => rfl
  have Ts : ∀ (h : Int → Int) (d : Int) (j : Nat), Twk (cW σ m) h d (j + 1) = Twk (cW σ m) h d j + (if h (j : Int) = d then cW σ m (j : Int) else 0) := fun _ _ _ => rfl
  have Ss : ∀ (h : Int → Int) (j : Nat), Smw h n (j + 1) = Smw h n j + (2 - h (j : Int)) * ((Tkn (n - 1 - j) : Int) + 1) + 1 := fun _ _ => rfl
  have sm0 := Smw_nonneg (n := n) k hdg
  have sp0 : 0 ≤ (2 - mk (k : Int)) * ((Tkn (n - 1 - k) : Int) + 1) := Int.mul_nonneg (by omega) (by omega)
  have smk := Ss mk k
  rw [show ((k : Int) + 1).toNat = k + 1 by omega] at hback
  refine ok_JnC (fun x => FM [] [85, 86, 87] φ x ∧ ShW (cW σ m) mk k x) (fun x hx => ?_) (fun J hJ => ?_)
  rotate_left
  · refine ok_wlt0 (by omega) (fun h1 => hJ _ ⟨FM.refl, ?_⟩) (fun h1 => ?_)
    · obtain ⟨s1, s2, s3⟩ := hSh
      rw [Ts, Ts, if_neg (by omega), if_neg (by omega)] at s1 s2
      rw [Ts, if_neg (by omega)] at s3
      exact ⟨by omega, by omega, by omega⟩
    · obtain ⟨ψ, e, p1, p2, p3, p4⟩ := give_eq (N := N) hI hMφ gF (i := (k : Int)) (s := -1) (by omega) (by rw [hmk]; omega)
      rw [hmk] at p2 p3 p4
      refine sm_rcv hMφ (ok_rw e (hJ _ ⟨p1, hSh.prev ⟨h1, hdi.2⟩ rfl p2 p3 p4⟩))
  obtain ⟨x1, x2⟩ := hx
  have fx : FM [47, 48] [84, 85, 86, 87] σm x := gF.trans (x1.mono (by simp) (by simp))
  have hMx := fx.M hM
  have x47 : x.2.1 47 = mk := (x1.2.2.1 47 (by decide) (by simp)).trans hmk
  have x48 : x.2.1 48 = φ.2.1 48 := x1.2.2.1 48 (by decide) (by simp)
  have x84 : fI x 1 84 = fI φ 1 84 := x1.f (by decide)
  refine sm_gR hMx rfl ?_
  refine sm_aI hMx rfl rfl (by decide) (by omega) (by omega) ?_
  rw [x47]
  refine sm_sI hMx rfl rfl (by decide) (by omega) (by omega) ?_
  have fy : FM [47, 48] [84, 85, 86, 87] σm (uI x 47 (k : Int) (mk (k : Int) + 1)) := fx.uI (by decide) (by simp)
  have yk : (uI x 47 (k : Int) (mk (k : Int) + 1)).2.1 47 (k : Int) = mk (k : Int) + 1 := uI_eq
  have yj : ∀ j : Int, j ≠ (k : Int) → (uI x 47 (k : Int) (mk (k : Int) + 1)).2.1 47 j = mk j := fun j q => (uI_j q).trans (by rw [x47])
  have y48 : ∀ j : Int, (uI x 47 (k : Int) (mk (k : Int) + 1)).2.1 48 j = φ.2.1 48 j := fun j => (uI_k (by decide)).trans (by rw [x48])
  have ys : ∀ s : Nat, fI (uI x 47 (k : Int) (mk (k : Int) + 1)) 1 s = fI x 1 s := fun s => fI_uk (by decide)
  generalize uI x 47 (k : Int) (mk (k : Int) + 1) = y at fy yk yj y48 ys ⊢
  generalize hmk' : y.2.1 47 = mk' at yk yj
  have hMy := fy.M hM
  have ag : ∀ j : Int, 0 ≤ j → j < (k : Int) → mk' j = mk j := fun j a b => yj j (by omega)
  have eQ := Qw_congr k ag
  have eS := Smw_congr (n := n) k ag
  have y84 : fI y 1 84 = fI φ 1 84 := (ys 84).trans x84
  refine sm_gR hMy rfl ?_
  refine sm_aI hMy rfl rfl (by decide) (by omega) (by omega) ?_
  rw [hmk', yk]
  refine ok_weq (by omega) (by decide) (fun h1 => ?_) (fun h1 => ?_)
  · -- back
    refine st_Lt (hback _ ⟨fy, ?_⟩ ?_)
    · cases k with
      | zero =>
        refine .inl ⟨rfl, hB.ext (fun h hf => ⟨fun _ => trivial, fun _ => ?_⟩) y84 y48⟩
        have q := hf.1 0 (by omega) (by omega)
        have q1 := Qs h 0
        have q2 : Qw h 0 = 0 := rfl
        have q3 : Qw mk 0 = 0 := rfl
        unfold DnW
        have q4 : h ((0 : Nat) : Int) = h 0 := rfl
        omega
      | succ k =>
        have ek : ((k + 1 : Nat) : Int) + -1 = (k : Int) := by omega
        have dk := hdg (k : Int) (by omega) (by omega)
        have ak := ag (k : Int) (by omega) (by omega)
        refine .inr ⟨k, ek, by omega, ?_, ?_, ?_, ?_⟩
        · dsimp only
          rw [hmk']
          exact fun j a b => by rw [ag j a (by omega)]; exact hdg j a (by omega)
        · dsimp only
          rw [hmk', ek]
          omega
        · dsimp only
          rw [hmk']
          exact x2.congr ag (ys 85) (ys 86) (ys 87)
        · dsimp only
          rw [hmk', ek]
          refine hB.ext (fun h hf => ?_) y84 y48
          unfold DnW
          have q := hf.1 ((k + 1 : Nat) : Int) (by omega) (by omega)
          have q1 := Qs h (k + 1)
          have q2 := Qs mk k
          have q3 := Qs mk' k
          have q4 := Qw_congr (g := mk') (h := mk) k fun j a b => ag j a (by omega)
          omega
    · dsimp only
      rw [hmk', show ((k : Int) + -1 + 1).toNat = k by omega, eS]
      omega
  have hd' : 0 ≤ mk' (k : Int) ∧ mk' (k : Int) ≤ 2 := by omega
  have dg' : digW (k + 1) mk' := fun j a b => by
    by_cases q : j = (k : Int)
    · rw [q]; exact hd'
    · rw [ag j a (by omega)]; exact hdg j a (by omega)
  obtain ⟨ψ, e, p1, p2, p3, p4⟩ := give_eq (N := N) hI hMy fy (i := (k : Int)) (s := 1) (by omega) (by rw [hmk']; exact hd')
  rw [hmk'] at p2 p3 p4
  have shψ : ShW (cW σ m) mk' (k + 1) ψ := (x2.congr ag (ys 85) (ys 86) (ys 87)).next hd' rfl p2 p3 p4
  refine sm_rcv hMy (ok_rw e ?_)
  dsimp only
  have fψ : FM [47, 48] [84, 85, 86, 87] σm ψ := fy.trans (p1.mono (by simp) (by simp))
  have hMψ := fψ.M hM
  have ψ47 : ψ.2.1 47 = mk' := (p1.2.2.1 47 (by decide) (by simp)).trans hmk'
  have ψ48 : ∀ j : Int, ψ.2.1 48 j = φ.2.1 48 j := fun j => by rw [p1.2.2.1 48 (by decide) (by simp)]; exact y48 j
  have ψ84 : fI ψ 1 84 = fI φ 1 84 := (p1.f (by decide)).trans y84
  have qk' := Qs mk' k
  have hB' : BsW (cW σ m) n (RmW σ m p) (fun h => Qw h (k + 1) < Qw mk' (k + 1)) ψ := hB.ext (fun h hf => by unfold DnW; constructor <;> intro q <;> omega) ψ84 ψ48
  obtain ⟨sh1, sh2, sh3⟩ := id shψ
  have t0 := Twk_rg (c := cW σ m) (h := mk') (d := 0) (k + 1) fun j a b => hc j a (by omega)
  have t1 := Twk_rg (c := cW σ m) (h := mk') (d := 1) (k + 1) fun j a b => hc j a (by omega)
  have t2 := Twk_rg (c := cW σ m) (h := mk') (d := 2) (k + 1) fun j a b => hc j a (by omega)
  have b84 : -1 ≤ fI ψ 1 84 ∧ fI ψ 1 84 ≤ 11988 := by
    rcases hB' with ⟨z, _⟩ | ⟨g, _, z, _⟩
    · omega
    · have := Twk_rg (c := cW σ m) (h := g) (d := 2) n hc
      omega
  have dec : Smw mk' n (k + 1) < Smw mk n (k + 1) := by
    have a := Ss mk' k
    have b : (2 - mk (k : Int)) * ((Tkn (n - 1 - k) : Int) + 1) = (2 - mk' (k : Int)) * ((Tkn (n - 1 - k) : Int) + 1) + ((Tkn (n - 1 - k) : Int) + 1) := by
      rw [show 2 - mk (k : Int) = (2 - mk' (k : Int)) + 1 by omega, Int.add_mul, Int.one_mul]
    omega
  have stay : ∀ χ : St, FM [48] [84] ψ χ → BsW (cW σ m) n (RmW σ m p) (DnW mk' k (mk' (k : Int))) χ → Ok (back (χ, (k : Int))) (fun w => FM [47, 48] [84, 85, 86, 87] σm w.1 ∧ BsW (cW σ m) n (RmW σ m p) (fun _ => True) w.1) := fun χ f b => by
    have c47 : χ.2.1 47 = mk' := (f.2.2.1 47 (by decide) (by simp)).trans ψ47
    refine hback _ ⟨fψ.trans (f.mono (by simp) (by simp)), .inr ⟨k, rfl, hk, ?_, ?_, ?_, ?_⟩⟩ ?_
    · dsimp only
      rw [c47]
      exact fun j a b => dg' j a (by omega)
    · dsimp only
      rw [c47]
      omega
    · dsimp only
      rw [c47]
      exact shψ.congr (fun _ _ _ => rfl) (f.f (by decide)) (f.f (by decide)) (f.f (by decide))
    · dsimp only
      rw [c47]
      exact b
    · dsimp only
      rw [c47, show ((k : Int) + 1).toNat = k + 1 by omega]
      omega
  have agree : ∀ h, feaW (cW σ m) n (RmW σ m p) h → DnW mk' k (mk' (k : Int)) h → ¬ Qw h (k + 1) < Qw mk' (k + 1) → ∀ j : Int, 0 ≤ j → j < ((k + 1 : Nat) : Int) → h j = mk' j := fun h hf a b => by
    unfold DnW at a
    exact Qw_pre (k + 1) (fun j x y => hf.1 j x (by omega)) dg' (by omega)
  refine sm_gI hMψ ?_
  refine ok_JnC (fun _ => fI ψ 1 84 = -1 ∨ Twk (cW σ m) mk' 2 (k + 1) < fI ψ 1 84) (fun _ hq => ?_) (fun J hJ => ?_)
  rotate_left
  · refine ok_wlt0 (by omega) (fun h2 => hJ () (.inl (by omega))) (fun h2 => ?_)
    refine sm_gI hMψ ?_
    refine sm_gI hMψ ?_
    refine ok_wlt (by omega) (by omega) (fun h3 => hJ () (.inr (by omega))) (fun h3 => stay ψ FM.refl (hB'.pass (fun h q => by unfold DnW; omega) fun h hf a b => ⟨by omega, ?_, fun f ff df => ?_⟩))
    · have e1 := Tw_congr (c := cW σ m) (d := 2) (k + 1) (agree h hf a b)
      obtain ⟨r, hr⟩ : ∃ r, n = k + 1 + r := ⟨n - (k + 1), by omega⟩
      have mo := Twk_mono (c := cW σ m) (h := h) (d := 2) (k + 1) r (fun j x y => hc0 j x (by omega))
      rw [← hr] at mo
      omega
    · have e1 := Qw_congr (k + 1) (agree h hf a b)
      obtain ⟨r, hr⟩ : ∃ r, n = k + 1 + r := ⟨n - (k + 1), by omega⟩
      have lx := Qw_lex (g := f) (h := h) (k + 1) r (by rw [← hr]; exact ff.1) (by rw [← hr]; exact hf.1) (by omega)
      rw [← hr] at lx
      omega
  refine sm_rcv hMψ (ok_rw (prt fψ) ?_)
  dsimp only
  refine ok_wlt (by omega) (by omega) (fun h2 => ?_) (fun h2 => ?_)
  · -- deeper
    refine st_Lt ?_
    refine sm_gR hMψ rfl ?_
    refine sm_sI hMψ rfl rfl (by decide) (by omega) (by omega) ?_
    have z1 : (uI ψ 47 ((k : Int) + 1) (-1)).2.1 47 ((k : Int) + 1) = -1 := uI_eq
    have zj : ∀ j : Int, j ≠ (k : Int) + 1 → (uI ψ 47 ((k : Int) + 1) (-1)).2.1 47 j = mk' j := fun j q => (uI_j q).trans (by rw [ψ47])
    have zs : ∀ s : Nat, fI (uI ψ 47 ((k : Int) + 1) (-1)) 1 s = fI ψ 1 s := fun s => fI_uk (by decide)
    have z48 : ∀ j : Int, (uI ψ 47 ((k : Int) + 1) (-1)).2.1 48 j = ψ.2.1 48 j := fun j => uI_k (by decide)
    have fz : FM [47, 48] [84, 85, 86, 87] σm (uI ψ 47 ((k : Int) + 1) (-1)) := fψ.uI (by decide) (by simp)
    generalize uI ψ 47 ((k : Int) + 1) (-1) = z at z1 zj zs z48 fz ⊢
    generalize hmz : z.2.1 47 = mz at z1 zj
    have agz : ∀ j : Int, 0 ≤ j → j < ((k + 1 : Nat) : Int) → mz j = mk' j := fun j a b => zj j (by omega)
    have ek : (k : Int) + 1 = ((k + 1 : Nat) : Int) := by omega
    rw [ek] at z1 ⊢
    refine hback _ ⟨fz, .inr ⟨k + 1, rfl, by omega, ?_, ?_, ?_, ?_⟩⟩ ?_
    · dsimp only
      rw [hmz]
      exact fun j a b => by rw [agz j a b]; exact dg' j a b
    · dsimp only
      rw [hmz, z1]
      decide
    · dsimp only
      rw [hmz]
      have s := shψ.congr agz (zs 85) (zs 86) (zs 87)
      obtain ⟨s1, s2, s3⟩ := s
      unfold ShW
      rw [Ts mz 0 (k + 1), Ts mz 1 (k + 1), Ts mz 2 (k + 1), z1, if_neg (by decide), if_neg (by decide), if_neg (by decide)]
      omega
    · dsimp only
      rw [hmz, z1]
      refine hB'.ext (fun h hf => ?_) (zs 84) z48
      unfold DnW
      have q := hf.1 ((k + 1 : Nat) : Int) (by omega) (by omega)
      have q1 := Qs h (k + 1)
      have q4 := Qw_congr (k + 1) agz
      omega
    · dsimp only
      rw [hmz, show (((k + 1 : Nat) : Int) + 1).toNat = k + 1 + 1 by omega]
      have a := Ss mz (k + 1)
      rw [z1] at a
      have b := Smw_congr (n := n) (k + 1) agz
      have c := Ss mk' k
      have d : (2 - mk (k : Int)) * ((Tkn (n - 1 - k) : Int) + 1) = (2 - mk' (k : Int)) * ((Tkn (n - 1 - k) : Int) + 1) + ((Tkn (n - 1 - k) : Int) + 1) := by
        rw [show 2 - mk (k : Int) = (2 - mk' (k : Int)) + 1 by omega, Int.add_mul, Int.one_mul]
      have t : Tkn (n - 1 - k) = 3 * (Tkn (n - 1 - (k + 1)) + 1) + 1 := by
        rw [show n - 1 - k = (n - 1 - (k + 1)) + 1 by omega]; rfl
      omega
  · -- a leaf
    have ekn : k + 1 = n := by omega
    rw [ekn] at sh1 sh2 sh3 t0 t1 t2 dg' hB' agree hq
    have sum := Tw_sum (c := cW σ m) n dg'
    have skip : ¬ feaW (cW σ m) n (RmW σ m p) mk' → Ok (back (ψ, (k : Int))) (fun w => FM [47, 48] [84, 85, 86, 87] σm w.1 ∧ BsW (cW σ m) n (RmW σ m p) (fun _ => True) w.1) := fun q => stay ψ FM.refl (hB'.pass (fun h z => by unfold DnW; rw [ekn]; rw [ekn] at qk'; omega) fun h hf a b => by
      have agr := agree h hf a b
      exact absurd ⟨dg', by rw [← Tw_congr n agr]; exact hf.2.1, by rw [← Tw_congr n agr]; exact hf.2.2⟩ q)
    refine sm_gI hMψ ?_
    refine ok_wlt (by omega) (by omega) (fun h3 => skip (fun q => by have := q.2.1; have := q.2.2; omega)) (fun h3 => ?_)
    refine sm_gI hMψ ?_
    refine ok_wlt (by omega) (by omega) (fun h4 => skip (fun q => by have := q.2.1; have := q.2.2; omega)) (fun h4 => ?_)
    have fea : feaW (cW σ m) n (RmW σ m p) mk' := ⟨dg', by omega, by omega⟩
    refine sm_gI hMψ ?_
    refine sm_pI hMψ ?_
    rw [sh3]
    have f9 : FM [48] [84] ψ (uF ψ 1 84 (Twk (cW σ m) mk' 2 n)) := FM.refl.uF (by simp)
    have e9 : fI (uF ψ 1 84 (Twk (cW σ m) mk' 2 n)) 1 84 = Twk (cW σ m) mk' 2 n := fI_eq
    generalize uF ψ 1 84 (Twk (cW σ m) mk' 2 n) = σ9 at f9 e9 ⊢
    refine ok_JnC (fun x => (FM [48] [84] ψ x ∧ fI x 1 84 = Twk (cW σ m) mk' 2 n) ∧ ∀ j : Int, 0 ≤ j → j < (n : Int) → x.2.1 48 j = mk' j) (fun x hx => stay x hx.1.1 (hB'.take hc0 fea (by unfold DnW; rw [ekn]; rw [ekn] at qk'; omega) (fun h hf a b => agree h hf a b) hq hx.1.2 hx.2)) (fun J hJ => ?_)
    unfold L_X12_seekShared_221
    refine ok_fix (fun q => (0 ≤ q.2 ∧ q.2 ≤ (n : Int)) ∧ (FM [48] [84] ψ q.1 ∧ fI q.1 1 84 = Twk (cW σ m) mk' 2 n) ∧ ∀ j : Int, 0 ≤ j → j < q.2 → q.1.2.1 48 j = mk' j) (fun q => ((n : Int) - q.2).toNat) (fun back2 q hq' hback2 => ?_) _ ⟨by dsimp only; omega, ⟨f9, e9⟩, fun j a b => by dsimp only at b; omega⟩ (by dsimp only; omega)
    obtain ⟨χ, j⟩ := q
    obtain ⟨q1, ⟨q2, q3⟩, q4⟩ := hq'
    dsimp only at q1 q2 q3 q4 hback2 ⊢
    have fχ : FM [47, 48] [84, 85, 86, 87] σm χ := fψ.trans (q2.mono (by simp) (by simp))
    have hMχ := fχ.M hM
    refine sm_rcv hMχ (ok_rw (prt fχ) ?_)
    dsimp only
    refine ok_wlt (by omega) (by omega) (fun h5 => ?_) (fun h5 => hJ _ ⟨⟨q2, q3⟩, fun j' a b => q4 j' a (by omega)⟩)
    refine sm_gR hMχ rfl ?_
    refine sm_gR hMχ rfl ?_
    refine sm_aI hMχ rfl rfl (by decide) (by omega) (by omega) ?_
    rw [q2.2.2.1 47 (by decide) (by simp), ψ47]
    refine sm_sI hMχ rfl rfl (by decide) (by omega) (by omega) (st_Lt ?_)
    refine hback2 _ ⟨by dsimp only; omega, ⟨q2.uI (by decide) (by simp), (fI_uk (by decide)).trans q3⟩, fun j' a b => ?_⟩ (by dsimp only; omega)
    dsimp only at b ⊢
    by_cases z : j' = j
    · rw [z, uI_eq]
    · rw [uI_j z]; exact q4 j' a (by omega)
end F
