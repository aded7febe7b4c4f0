theorem zl290 : zm290.2.2.2.2.2.length ≤ 88 := by decide +kernel
theorem zk290 : zchkM zm290 = true := zchkM_of rfl (m := 11) (by have := zl290; omega) (fun c h => match c, h with
  | 0, _ => zc290_0
  | 1, _ => zc290_1
  | 2, _ => zc290_2
  | 3, _ => zc290_3
  | 4, _ => zc290_4
  | 5, _ => zc290_5
  | 6, _ => zc290_6
  | 7, _ => zc290_7
  | 8, _ => zc290_8
  | 9, _ => zc290_9
  | 10, _ => zc290_10
  | n + 11, h => by omega)
