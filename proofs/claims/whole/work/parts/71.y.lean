def tkS (i : Nat) : xSt := fo (fun i s => up2 s 1 i (-1)) σ0 i
def σP : xSt := tkS 14
def σC : xSt := (fun c => if c = 29 then σP.1 1 else fun _ => 0, 0)
set_option maxHeartbeats 1000000 in
theorem w_C (h0 : Nat) (a1 a2 a3 a4 a5 a6 a7 : Nat → Nat) (cI : ClassId) : ((h0, .inr (6, [.ref (a1 0), .ref (a2 0), .ref (a3 0), .ref (a4 0), .ref (a5 0), .ref (a6 0), .ref (a7 0), .int 0, .int 0, .int 0])) :: ((((((([] ++ x_w a1 cI shX4 σ0) ++ x_w a2 cI shX0 σ0) ++ x_w a3 cI shX3 σ0) ++ x_w a4 cI shX3 σ0) ++ x_w a5 cI shX2 σ0) ++ x_w a6 cI shX5 σ0) ++ x_w a7 cI shX1 σP) : va_W) = x_w (fun i => if i = 0 then h0 else if i < 3 then a1 (i - 1) else if i < 5 then a2 (i - 3) else if i < 14 then a3 (i - 5) else if i < 23 then a4 (i - 14) else if i < 25 then a5 (i - 23) else if i < 28 then a6 (i - 25) else a7 (i - 28)) cI shC σC := by
  simp only [x_w_eq]
  rfl
