theorem g_updc (v : Int32) (i : Nat) : upd (fun _ => v) i v = fun _ => v := by
  funext j
  unfold upd
  split <;> rfl
