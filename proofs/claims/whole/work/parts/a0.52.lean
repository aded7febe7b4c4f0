theorem zl161 : zm161.2.2.2.2.2.length = 62 := by decide +kernel
theorem zk161 : zchkM zm161 = true := zchkM_of zl161 (m := 8) (by decide) (fun c h => match c, h with
  | 0, _ => zc161_0
  | 1, _ => zc161_1
  | 2, _ => zc161_2
  | 3, _ => zc161_3
  | 4, _ => zc161_4
  | 5, _ => zc161_5
  | 6, _ => zc161_6
  | 7, _ => zc161_7
  | n + 8, h => by omega)
