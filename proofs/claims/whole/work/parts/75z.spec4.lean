/-! the pure rule, case by case -/
section zSpec4
theorem zcoded_n {f : Nat → Int32} {N cap limit a : Nat} {u : zU} (h : zrd f N u.1 1 = none) : zcoded f N cap limit u a = none := by
  unfold zcoded zcodes
  simp only [h]
theorem zcoded_c {f : Nat → Int32} {N cap limit a x P1 : Nat} {u : zU} (h : zrd f N u.1 1 = some (x, P1)) (h2 : zcd4 f N (decide (x = 1)) P1 = none) : zcoded f N cap limit u a = none := by
  unfold zcoded zcodes
  simp only [h, h2]
theorem zcoded_s {f : Nat → Int32} {N cap limit a x P1 P5 : Nat} {u : zU} {K : zCo} (h : zrd f N u.1 1 = some (x, P1)) (h2 : zcd4 f N (decide (x = 1)) P1 = some (K, P5)) : zcoded f N cap limit u a = (match zcmds f N K (decide (x = 1)) cap limit 64 (P5, u.2) with | none => none | some u' => some (u', a + 1)) := by
  unfold zcoded zcodes
  simp only [h, h2] <;> rfl
theorem zbody_1 {f : Nat → Int32} {N a P : Nat} {u : zU} {last : Bool} (h : zrd f N P 1 = none) : zbody f N last P u a = none := by
  unfold zbody
  simp only [h]
theorem zbody_2 {f : Nat → Int32} {N a P x P1 : Nat} {u : zU} {last : Bool} (h : zrd f N P 1 = some (x, P1)) (h2 : zrd f N P1 6 = none) : zbody f N last P u a = none := by
  unfold zbody
  simp only [h, h2]
theorem zbody_3 {f : Nat → Int32} {N a P x P1 v P2 : Nat} {u : zU} {last : Bool} (h : zrd f N P 1 = some (x, P1)) (h2 : zrd f N P1 6 = some (v, P2)) : zbody f N last P u a = (if 96 < u.2.1.length + v + 1 then none else match (if x = 1 then zcoded f N (u.2.1.length + v + 1) (u.2.1.length + v + 1) (P2, u.2) a else zrawb f N (u.2.1.length + v + 1) (u.2.1.length + v + 1) (P2, u.2) a) with | none => none | some (u', a') => some (last, u', a')) := by
  unfold zbody
  simp only [h, h2] <;> rfl
theorem zblk_0 {f : Nat → Int32} {N a : Nat} {u : zU} (h : zrd f N u.1 1 = none) : zblk f N u a = none := by
  unfold zblk
  simp only [h]
theorem zblk_1 {f : Nat → Int32} {N a x P1 : Nat} {u : zU} (h : zrd f N u.1 1 = some (x, P1)) (hx : ¬ x = 1) : zblk f N u a = zbody f N false P1 u a := by
  unfold zblk
  simp only [h, if_neg hx]
theorem zblk_2 {f : Nat → Int32} {N a x P1 : Nat} {u : zU} (h : zrd f N u.1 1 = some (x, P1)) (hx : x = 1) (h2 : zrd f N P1 1 = none) : zblk f N u a = none := by
  unfold zblk
  simp only [h, if_pos hx, h2]
theorem zblk_3 {f : Nat → Int32} {N a x P1 z P2 : Nat} {u : zU} (h : zrd f N u.1 1 = some (x, P1)) (hx : x = 1) (h2 : zrd f N P1 1 = some (z, P2)) (hz : ¬ z = 1) : zblk f N u a = zbody f N true P2 u a := by
  unfold zblk
  simp only [h, if_pos hx, h2, if_neg hz]
theorem zblk_4 {f : Nat → Int32} {N a x P1 z P2 : Nat} {u : zU} (h : zrd f N u.1 1 = some (x, P1)) (hx : x = 1) (h2 : zrd f N P1 1 = some (z, P2)) (hz : z = 1) : zblk f N u a = some (true, (P2, u.2), a) := by
  unfold zblk
  simp only [h, if_pos hx, h2, if_pos hz]
theorem zrawb_n {f : Nat → Int32} {N cap limit a : Nat} {u : zU} (h : zpdd f N u.1 = none) : zrawb f N cap limit u a = none := by
  unfold zrawb
  simp only [h]
theorem zrawb_s {f : Nat → Int32} {N cap limit a P1 : Nat} {u : zU} (h : zpdd f N u.1 = some P1) (hc : ¬ cap < limit) : zrawb f N cap limit u a = (match zraw f N (limit - u.2.1.length) P1 u.2.1 with | none => none | some (P', o') => some ((P', o', u.2.2), a)) := by
  unfold zrawb
  simp only [h, if_neg hc] <;> rfl
theorem zunp_1 {f : Nat → Int32} {N : Nat} (h : zall f N 97 (0, [], (1, 2, 4, 8), 0, 0, 0) 0 = none) : zunp f N = none := by
  unfold zunp
  simp only [h]
theorem zunp_2 {f : Nat → Int32} {N a : Nat} {u : zU} (h : zall f N 97 (0, [], (1, 2, 4, 8), 0, 0, 0) 0 = some (u, a)) (h2 : zpdd f N u.1 = none) : zunp f N = none := by
  unfold zunp
  simp only [h, h2]
theorem zunp_3 {f : Nat → Int32} {N a P : Nat} {u : zU} (h : zall f N 97 (0, [], (1, 2, 4, 8), 0, 0, 0) 0 = some (u, a)) (h2 : zpdd f N u.1 = some P) : zunp f N = if P = N then some (u, a) else none := by
  unfold zunp
  simp only [h, h2]
def zfin (f : Nat → Int32) (N : Nat) (tot : Option (zU × Nat)) : Option (zU × Nat) := match tot with
  | none => none
  | some (u, a) => match zpdd f N u.1 with
    | none => none
    | some P => if P = N then some (u, a) else none
theorem zunp_fin {f : Nat → Int32} {N : Nat} : zunp f N = zfin f N (zall f N 97 (0, [], (1, 2, 4, 8), 0, 0, 0) 0) := rfl
end zSpec4
