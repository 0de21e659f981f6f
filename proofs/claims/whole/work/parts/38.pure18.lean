theorem fsum_cc {c d v : Int → Int} {i : Int} : ∀ n : Nat, eqOn c d 0 n → fsum c v i n = fsum d v i n
  | 0, _ => rfl
  | n + 1, h => by
    show fsum c v i n + c n * v (i - 1 - n) = fsum d v i n + d n * v (i - 1 - n)
    rw [fsum_cc n (fun j h1 h2 => h j h1 (by omega)), h n (by omega) (by omega)]
theorem ft_cc {c d v : Int → Int} {o sh i : Int} (ho : 0 ≤ o) (h : eqOn c d 0 o) : ft c v o sh i = ft d v o sh i := by
  unfold ft
  rw [fsum_cc o.toNat (fun j h1 h2 => h j h1 (by omega))]
theorem elemR_cc {B c d : Int → Int} {len b k xx o sh : Int} (ho : 0 ≤ o) (h : eqOn c d 0 o) : ∀ (m : Nat) (i pos : Int) (v : Int → Int), elemR B len b k xx o sh c m i pos v = elemR B len b k xx o sh d m i pos v
  | 0, i, pos, v => rfl
  | m + 1, i, pos, v => by
    show (if _ then fltR _ 8 _ else _) = (if _ then fltR _ 8 _ else _)
    rw [ft_cc ho h, elemR_cc ho h m]
theorem partR_cc {B c d : Int → Int} {len b o sh fr to pos : Int} {v : Int → Int} (ho : 0 ≤ o) (h : eqOn c d 0 o) : partR B len b o sh c fr to pos v = partR B len b o sh d fr to pos v := by
  have hT : xT B len b o sh c fr to v = xT B len b o sh d fr to v := by
    funext k xx p
    unfold xT
    rw [elemR_cc ho h]
  unfold partR
  congr 1
  funext k p
  unfold xR
  rw [hT]
