/-! THE START: both sides are made (with nothing known of the script) -/
def shB : List PS := [(13, 2, [.ref (3 : Nat), .int 0]), (13, 2, [.ref (4 : Nat), .int 0]), (13, 2, [.ref (5 : Nat), .int 0]), (25, 24, []), (25, 61, []), (25, 40, []), (20, 9, []), (99, 0, []), (99, 0, [])]
def bI (c k : Nat) : Int32 := if c = 6 then plain k else if 3 ≤ c ∧ c ≤ 5 then (sByt.getD (c - 3) []).getD k 0 else 0
def b9 : PM := (fun c => shB.getD c (99, 0, []), bI, fun _ _ => 0, 9, 0)
def boot1 : Option PM := match prun 3000 30 130 0 (entL 130 [.ref (9 : Nat)]) [] (pal b9 (11, 18, fdef.getD 11 [])) with
  | some (.inl none, μ) => some μ
  | _ => none
def boot2 : Option PM := match boot1 with
  | some μ => (match prun 4000 30 190 0 (entL 190 [.ref (70 : Nat)]) [] (pal μ (12, 43, fdef.getD 12 [])) with
    | some (.inl none, μ) => some (pal μ (21, 1, []))
    | _ => none)
  | none => none
def r41 (j : Nat) : Int32 := if 6 ≤ j ∧ j < 12 then -1 else if 60 ≤ j ∧ j < 67 then -1 else if j = 83 then 2 else 0
def bck (o : Option PM) : Bool := match o with
  | some μ => (μ.2.2.2.1 == 560 && μ.2.2.2.2 == 0) && ((List.range 560).all (fun c => c == 7 || decide (μ.1 c = sh0 0 c)) && ((List.range 84).all (fun j => decide (μ.2.1 41 j = r41 j) && decide (μ.2.1 534 j = vc r41 j)) && ((List.range 9).all (fun j => decide (μ.2.1 25 j = plain j)) &&
     [(12, 5), (12, 6), (70, 18), (70, 33), (70, 34), (70, 35), (70, 36), (70, 1), (10, 1), (9, 15), (9, 16), (9, 17), (72, 0), (72, 1), (44, 1), (46, 2), (37, 0), (37, 1), (64, 0), (74, 0), (74, 1), (14, 0), (14, 1), (14, 2), (14, 3), (14, 4), (14, 5), (14, 6)].all (fun q => decide (μ.2.1 q.1 q.2 = 0)) && (decide (μ.2.1 24 3 = 9) && (decide (μ.2.1 70 3 = -1) && decide (μ.2.1 10 6 = -1))))))
  | none => false
set_option maxRecDepth 1000000 in
theorem boot_ok : bck boot2 = true := by decide +kernel

