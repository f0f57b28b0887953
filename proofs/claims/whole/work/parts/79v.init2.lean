/-! the pure part: the relation holds at first -/
def tF (i : Int) : Nat := if i = 0 then 40 else if i = 1 then 46 else 52
set_option maxRecDepth 100000 in
theorem initM_3 : okB (f_X12_init NN z1 1) (fun q => (q.1.1 == 51 && (List.range 100).all fun j => match rmT j with
  | some v => q.1.2.2 1 (j : Int) == v
  | none => true) && (([2, 4, 31, 67, 68, 73, 81, 91, 92, 93].all fun j => fI q.1 1 j == 0) && fI q.1 1 74 == 2 && fI q.1 1 5 == -1 && ([4, 5, 6, 7, 8].all fun k => q.1.2.1 k 0 == 0) && ((List.range 64).all fun c => q.1.2.1 21 (c : Int) == 0) && ((List.range 3).all fun c => q.1.2.1 24 (c : Int) == 0) && ((List.range 12).all fun c => q.1.2.1 32 (c : Int) == 0))) = true := by decide +kernel
set_option maxRecDepth 100000 in
theorem initX_3 : okB (f_X11_init NN z1 1) (fun q => (q.1.1 == 113 && (List.range 114).all fun k => (List.range 20).all fun j => match rxT k j with
  | some v => q.1.2.2 k (j : Int) == v
  | none => true) && ((q.1.2.2 1 1 == 8 && q.1.2.2 1 2 == 23 && q.1.2.2 1 5 == 58 && q.1.2.2 39 0 == 40 && q.1.2.2 39 1 == 46 && q.1.2.2 39 2 == 52) && ([0, 1, 7, 11, 15].all fun j => fI q.1 8 j == 0) && ((List.range 3).all fun c => q.1.2.1 20 (c : Int) == 0 && q.1.2.1 21 (c : Int) == 0) && ((List.range 64).all fun c => q.1.2.1 22 (c : Int) == 0) && (fI q.1 2 2 == 0 && fI q.1 2 12 == 0 && fI q.1 2 13 == -1) && (fI q.1 66 0 == 0 && fI q.1 66 1 == 0) && (fI q.1 73 0 == 0 && fI q.1 73 1 == 2 && fI q.1 73 2 == -1) && fI q.1 100 0 == 0 && fI q.1 104 1 == -1 && ([0, 1, 2, 3].all fun j => fI q.1 108 j == 0) && ([40, 46, 52].all fun t => fI q.1 t 0 == 0 && (List.range 4).all fun n => q.1.2.1 (t + 2) (n : Int) == -1) && ((List.range 18).all fun c => q.1.2.1 65 (c : Int) == -2))) = true := by decide +kernel
