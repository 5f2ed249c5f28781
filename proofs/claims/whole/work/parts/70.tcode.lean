/-! TREES: codes, their steps, how many at most -/
def NC1 : List Nat := [0, 1]
def NC2 : List Nat := [0, 8, 1, 9, 17]
def NC3 : List Nat := [0, 64, 8, 72, 136, 1, 65, 129, 9, 73, 137, 17, 81, 145, 209]
def NC4 : List Nat := [0, 512, 64, 576, 1088, 8, 520, 1032, 72, 584, 1096, 136, 648, 1160, 1672, 1, 513, 1025, 65, 577, 1089, 129, 641, 1153, 1665, 9, 521, 1033, 73, 585, 1097, 137, 649, 1161, 1673, 17, 529, 1041, 1553, 81, 593, 1617, 145, 657, 1169, 1681, 209, 721, 1233, 1745, 2257]
def NC5 : List Nat := [0, 4096, 512, 4608, 8704, 64, 4160, 8256, 576, 4672, 8768, 1088, 5184, 9280, 13376, 8, 4104, 8200, 520, 4616, 8712, 1032, 5128, 9224, 13320, 72, 4168, 8264, 584, 4680, 8776, 1096, 5192, 9288, 13384, 136, 4232, 8328, 12424, 648, 4744, 12936, 1160, 5256, 9352, 13448, 1672, 5768, 9864, 13960, 18056, 1, 4097, 8193, 513, 4609, 8705, 1025, 5121, 9217, 13313, 65, 4161, 8257, 577, 4673, 8769, 1089, 5185, 9281, 13377, 129, 4225, 8321, 12417, 641, 4737, 12929, 1153, 5249, 9345, 13441, 1665, 5761, 9857, 13953, 18049, 9, 4105, 8201, 521, 4617, 8713, 1033, 5129, 9225, 13321, 73, 4169, 8265, 585, 4681, 8777, 1097, 5193, 9289, 13385, 137, 4233, 8329, 12425, 649, 4745, 12937, 1161, 5257, 9353, 13449, 1673, 5769, 9865, 13961, 18057, 17, 4113, 8209, 12305, 529, 4625, 12817, 1041, 5137, 9233, 13329, 1553, 5649, 9745, 13841, 17937, 81, 4177, 12369, 593, 4689, 12881, 1617, 5713, 13905, 18001, 145, 4241, 8337, 12433, 657, 4753, 12945, 1169, 5265, 9361, 13457, 1681, 5777, 9873, 13969, 18065, 209, 4305, 8401, 12497, 16593, 721, 4817, 17105, 1233, 5329, 9425, 17617, 1745, 5841, 9937, 14033, 18129, 2257, 6353, 10449, 14545, 18641, 22737]
def NCL (w : Nat) : List Nat := if w = 1 then NC1 else if w = 2 then NC2 else if w = 3 then NC3 else if w = 4 then NC4 else NC5
def forceN (x : Nat) (k : Nat → Bool) : Bool := match x with
  | 0 => k 0
  | m + 1 => k (m + 1)
theorem force_eq (x : Nat) (k : Nat → Bool) : forceN x k = k x := by cases x <;> rfl
def uN (n j : Nat) : Nat := n / 8 ^ j % 8
def f2N (n c z : Nat) (pb : Bool) (j : Nat) : Nat := if j = c then (if pb = true then (if z.testBit 0 = true then uN n c else 6) else 0) else (if z.testBit 1 = true ∧ uN n j = uN n (c + 1) then uN n c else uN n j)
def g2N (n c z : Nat) (pb : Bool) : Nat := f2N n c z pb 0 + 8 * f2N n c z pb 1 + 64 * f2N n c z pb 2 + 512 * f2N n c z pb 3 + 4096 * f2N n c z pb 4
def cutN (w n c z : Nat) (pb : Bool) : Bool := uN n c != 0 && (List.range w).all (fun j => f2N n c z pb j != uN n c)
def cdI (w g : Nat) : Int32 := codeF (fun q => nI (uN g q)) w
def zOK (w n c z : Nat) (pb : Bool) : Bool := !(z.testBit 1 && (decide (w ≤ c + 1) || uN n c == 0 || uN n (c + 1) == 0 || uN n c == uN n (c + 1))) && !(z.testBit 0 && (uN n c == 0 || !pb))
def kchk (w g m : Nat) : Bool := decide (cdI w g = nI m) && (NCL w).contains m && (List.range w).all (fun i => (uN m i == 0) == (uN g i == 0)) && (List.range w).all (fun i => (List.range i).all (fun j => (uN m i == uN m j) == (uN g i == uN g j)))
def cnR (g : Nat) : Nat → Nat → Nat → Nat → Nat → Nat
  | 0, _, code, _, _ => code
  | k + 1, i, code, names, named => if uN g i = 0 then cnR g k (i + 1) code names named else if uN names (uN g i) = 0 then cnR g k (i + 1) (code + (named + 1) * 8 ^ i) (names + (named + 1) * 8 ^ uN g i) (named + 1) else cnR g k (i + 1) (code + uN names (uN g i) * 8 ^ i) names named
def cnN (w g : Nat) : Nat := cnR g w 0 0 0 0
def tchk (w n c z : Nat) (pb : Bool) : Bool := if zOK w n c z pb = true then forceN (g2N n c z pb) (fun g => forceN (cnN w g) (fun m => kchk w g m)) else true
def tchA (w c : Nat) : Bool := (NCL w).all (fun n => (List.range 4).all (fun z => tchk w n c z false && tchk w n c z true))
set_option maxRecDepth 1000000 in
theorem tchA10 : tchA 1 0 = true := by decide +kernel
set_option maxRecDepth 1000000 in
theorem tchA20 : tchA 2 0 = true := by decide +kernel
set_option maxRecDepth 1000000 in
theorem tchA21 : tchA 2 1 = true := by decide +kernel
set_option maxRecDepth 1000000 in
theorem tchA30 : tchA 3 0 = true := by decide +kernel
set_option maxRecDepth 1000000 in
theorem tchA31 : tchA 3 1 = true := by decide +kernel
set_option maxRecDepth 1000000 in
theorem tchA32 : tchA 3 2 = true := by decide +kernel
set_option maxRecDepth 1000000 in
theorem tchA40 : tchA 4 0 = true := by decide +kernel
set_option maxRecDepth 1000000 in
theorem tchA41 : tchA 4 1 = true := by decide +kernel
set_option maxRecDepth 1000000 in
theorem tchA42 : tchA 4 2 = true := by decide +kernel
set_option maxRecDepth 1000000 in
theorem tchA43 : tchA 4 3 = true := by decide +kernel
set_option maxRecDepth 1000000 in
theorem tchA50 : tchA 5 0 = true := by decide +kernel
set_option maxRecDepth 1000000 in
theorem tchA51 : tchA 5 1 = true := by decide +kernel
set_option maxRecDepth 1000000 in
theorem tchA52 : tchA 5 2 = true := by decide +kernel
set_option maxRecDepth 1000000 in
theorem tchA53 : tchA 5 3 = true := by decide +kernel
set_option maxRecDepth 1000000 in
theorem tchA54 : tchA 5 4 = true := by decide +kernel
def fchk (w g : Nat) : Bool := forceN ((if g.testBit 0 = true then 1 else 0) + (if g.testBit 1 = true then 16 else 0) + (if g.testBit 2 = true then 192 else 0) + (if g.testBit 3 = true then 2048 else 0) + (if g.testBit 4 = true then 20480 else 0)) (fun x => forceN (cnN w x) (fun m => kchk w x m))
set_option maxRecDepth 1000000 in
theorem fchA : (List.range 6).all (fun w => if w = 0 then true else (List.range 32).all (fun g => fchk w g)) = true := by decide +kernel
def pat (w g n : Nat) : Bool := (List.range w).all (fun j => (uN n j == 0) == !g.testBit j)
theorem pat42 : (List.range 6).all (fun w => (List.range 32).all (fun g => decide (((NCL w).filter (pat w g)).length ≤ 42 ∨ w = 0))) = true := by decide +kernel
theorem NC_fact : (List.range 6).all (fun w => (NCL w).all (fun n => decide (w = 0) || (decide (n < 32768) && (List.range w).all (fun j => decide (uN n j ≤ 5)) && (!(List.range w).all (fun j => uN n j == 0) || n == 0)))) = true := by decide +kernel
