/-! ===== the states of new objects ===== -/
def iniC : tyS := (fun a => match a with
  | 20 => tyFill (fun _ => 0) 30 (-1)
  | 26 => tyFill (fun _ => 0) 6 (-1)
  | 27 => tyFill (fun _ => 0) 6 (-1)
  | 28 => tyFill (fun _ => 0) 3 1
  | 29 => tyFill (fun _ => 0) 30 (-1)
  | _ => fun _ => 0, fun _ => 0)
def iniM : tyS := (fun a => match a with
  | 7 => upd (upd (upd (upd (upd (upd (fun _ => 0) ((0 : Int32).toNatClampNeg) (-1)) ((1 : Int32).toNatClampNeg) (-1)) ((2 : Int32).toNatClampNeg) (-1)) ((3 : Int32).toNatClampNeg) (-1)) ((4 : Int32).toNatClampNeg) (-1)) ((5 : Int32).toNatClampNeg) (-1)
  | 8 => upd (upd (upd (fun _ => 0) ((0 : Int32).toNatClampNeg) 1) ((1 : Int32).toNatClampNeg) 1) ((2 : Int32).toNatClampNeg) 1
  | _ => fun _ => 0, fun _ => 0)
