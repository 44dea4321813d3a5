/-! exact functions of the reference, along its bytecode. Its store: fields in the order of its text
   0 delay 1 xoff 2 room 3 mark 4 time 5 order 6 flows 15 frames (index 0) ; 7 start 8 goal 9 priorityOf 10 rates 11 target 12 alphas 13 calm 14 wait (12 each) ;
   16 flowOf 17 lengths 18 states 19 place 20 came 21 when 22 marks (100 each) ; 23 turn (196) 24 credit (392) 25 quantum (2) 26 asking (196) 27 asked (1764) -/
def mf_near (v lo hi : Int32) : Int32 := if lo ≤ v then (if v ≤ hi then v else hi) else lo
def mf_link (low high : Int32) : Bool := if 8 ≤ low then (if 12 ≤ low then false else if high ≤ 11 then false else true) else (if high = 8 + low / 2 then true else false)
def mf_port (u v : Int32) : Bool := if u < 0 then false else if v < 0 then false else if 13 < u then false else if v ≤ 13 then (if v ≤ u then mf_link v u else mf_link u v) else false
def mf_isF (m : fb_S) (f : Int32) : Bool := if f < 0 then false else if m 6 0 ≤ f then false else true
def mf_isK (m : fb_S) (k : Int32) : Bool := if k < 0 then false else if m 15 0 ≤ k then false else true
def mf_end (m : fb_S) (f : Int32) : Int32 := if m 7 (fb_n f) / 2 = m 8 (fb_n f) / 2 then 2 else 4
def mf_ones (f : Int32) : Int32 := (f &&& 1) + ((f >>> ((1 : Int32) &&& 31)) &&& 1) + ((f >>> ((2 : Int32) &&& 31)) &&& 1) + ((f >>> ((3 : Int32) &&& 31)) &&& 1)
def mf_node (m : fb_S) (f i : Int32) : Int32 :=
  if i = 0 then m 7 (fb_n f) else if i = mf_end m f then m 8 (fb_n f) else
  if i = 2 then 12 + (mf_ones f - mf_ones f / 2 * 2)
  else if i = 1 then 8 + m 7 (fb_n f) / 2 else 8 + m 8 (fb_n f) / 2
def mf_btw (m : fb_S) (k : Nat) (u v : Int32) : Bool :=
  if 4 ≤ m 18 k then false else if mf_node m (m 16 k) (m 19 k) = u then (if mf_node m (m 16 k) (m 19 k + 1) = v then true else false) else false
def mf_here (m : fb_S) (u v q : Int32) (k : Nat) : Bool := if m 18 k = 1 then (if m 9 (fb_n (m 16 k)) = q then (if mf_btw m k u v = true then true else false) else false) else false
def mf_first (m : fb_S) (u v q : Int32) : Nat → Int32
  | 0 => -1
  | k + 1 => if mf_here m u v q k = true then (if mf_first m u v q k < 0 then nI k else if m 20 (fb_n (mf_first m u v q k)) ≤ m 20 k then mf_first m u v q k else nI k) else mf_first m u v q k
def mf_qlen (m : fb_S) (u v q : Int32) : Nat → Int32
  | 0 => 0
  | k + 1 => if mf_here m u v q k = true then mf_qlen m u v q k + m 17 k else mf_qlen m u v q k
def mf_sends (m : fb_S) (u v : Int32) : Nat → Bool
  | 0 => false
  | k + 1 => if mf_sends m u v k = true then true else if m 18 k = 2 then (if mf_btw m k u v = true then true else false) else false
def mf_isin (m : fb_S) (q : Int32) (k : Nat) : Bool :=
  let r := if m 19 k ≤ 0 then false else if m 9 (fb_n (m 16 k)) = q then true else false
  if m 18 k = 1 then r else if m 18 k = 2 then r else false
def mf_holds (m : fb_S) (u v q : Int32) : Nat → Int32
  | 0 => 0
  | k + 1 => if mf_isin m q k = true then (if mf_node m (m 16 k) (m 19 k) = v then (if mf_node m (m 16 k) (m 19 k - 1) = u then mf_holds m u v q k + m 17 k else mf_holds m u v q k) else mf_holds m u v q k) else mf_holds m u v q k
abbrev mf_pidx (m : fb_S) (u v : Int32) : Int32 := ((m 4 0 - m 0 0) - (m 4 0 - m 0 0) / 9 * 9) * 196 + 14 * u + v
def mf_paused (m : fb_S) (u v : Int32) : Bool := if m 4 0 ≤ m 0 0 then false else if m 27 (fb_n (mf_pidx m u v)) = 0 then false else true
def mf_enq (k : Nat) (m : fb_S) : fb_S :=
  let m1 := fb_up m 18 k 1
  let m2 := fb_up m1 20 k (m1 5 0)
  fb_up m2 5 0 (m2 5 0 + 1)
def mf_endOne (fr k : Nat) (m : fb_S) : fb_S :=
  if m 18 k = 2 then (if m 21 k = m 4 0 then
    let m1 := fb_up m 18 k 3
    if m1 19 k ≤ 0 then m1 else if m1 9 (fb_n (m1 16 k)) = 0 then
      let g := 14 * mf_node m1 (m1 16 k) (m1 19 k - 1) + mf_node m1 (m1 16 k) (m1 19 k)
      fb_up m1 26 (fb_n g) (if m1 26 (fb_n g) = 0 then 0 else if mf_holds m1 (mf_node m1 (m1 16 k) (m1 19 k - 1)) (mf_node m1 (m1 16 k) (m1 19 k)) 0 fr ≤ m1 1 0 / 2 then 0 else 1)
    else m1 else m) else m
def mf_told (m : fb_S) (f : Int32) : Nat → Bool
  | 0 => false
  | k + 1 => if mf_told m f k = true then true else if m 16 k = f then (if m 18 k = 4 then (if m 22 k = 0 then false else if m 21 k = m 4 0 - m 0 0 then true else false) else false) else false
def mf_slow (fr f : Nat) (m : fb_S) : fb_S :=
  if mf_told m (nI f) fr = true then
    let m1 := fb_up m 11 f (m 10 f)
    let less := m1 10 f - m1 10 f * m1 12 f / 128
    let m2 := fb_up m1 10 f (if 1 ≤ less then less else 1)
    let m3 := fb_up m2 12 f ((15 * m2 12 f + 64) / 16)
    fb_up m3 13 f 0
  else
    let m1 := fb_up m 13 f (m 13 f + 1)
    if m1 13 f = 16 then
      let m2 := fb_up m1 13 f 0
      let m3 := fb_up m2 12 f (15 * m2 12 f / 16)
      fb_up m3 10 f ((m3 10 f + m3 11 f + 1) / 2)
    else m1
def mf_much (m : fb_S) (fr k : Nat) (u v : Int32) : Bool :=
  let q := m 9 (fb_n (m 16 k))
  if mf_holds m u v q fr + m 17 k ≤ (if q = 1 then m 1 0 else m 1 0 + m 2 0) then false else true
def mf_mark (m : fb_S) (fr k : Nat) (v w q : Int32) : Bool := if m 22 k = 0 then (if mf_qlen m v w q fr ≤ m 3 0 then false else true) else true
def mf_ask (m : fb_S) (fr : Nat) (u v q : Int32) : Bool := if m 26 (fb_n (14 * u + v)) = 0 then (if q = 0 then (if mf_holds m u v 0 fr < m 1 0 then false else true) else false) else true
def mf_arrive (fr k : Nat) (u v : Int32) (m : fb_S) : fb_S :=
  if m 19 k + 1 = mf_end m (m 16 k) then
    let m1 := fb_up m 19 k (m 19 k + 1)
    let m2 := fb_up m1 18 k 4
    fb_up m2 21 k (m2 4 0)
  else
    let m1 := fb_up m 19 k (m 19 k + 1)
    if mf_much m fr k u v = true then fb_up m1 18 k 5 else
    let m2 := mf_enq k m1
    let m3 := fb_up m2 22 k (fb_b (mf_mark m2 fr k v (mf_node m2 (m 16 k) (m2 19 k + 1)) (m 9 (fb_n (m 16 k)))))
    fb_up m3 26 (fb_n (14 * u + v)) (fb_b (mf_ask m3 fr u v (m 9 (fb_n (m 16 k)))))
def mf_arrK (fr : Nat) (u v : Int32) (k : Nat) (m : fb_S) : fb_S :=
  if mf_port u v = true then (if m 18 k = 3 then (if m 21 k + m 0 0 = m 4 0 then (if mf_btw m k u v = true then mf_arrive fr k u v m else m) else m) else m) else m
def mf_arrU (fr v u : Nat) (m : fb_S) : fb_S := fb_it (mf_arrK fr (nI u) (nI v)) fr m
def mf_arrV (fr v : Nat) (m : fb_S) : fb_S := fb_it (mf_arrU fr v) 14 m
def mf_arrivals (fr : Nat) (m : fb_S) : fb_S := fb_it (mf_arrV fr) 14 m
def mf_ready (m : fb_S) (fr : Nat) (u v q : Int32) : Bool :=
  let r := if 7 < u then true else if m 4 0 < m 14 (fb_n (m 16 (fb_n (mf_first m u v q fr)))) then false else true
  if mf_first m u v q fr < 0 then false else if q = 0 then (if mf_paused m u v = true then false else r) else r
def mf_begin (k u : Int32) (m : fb_S) : fb_S :=
  let m1 := fb_up m 18 (fb_n k) 2
  let m2 := fb_up m1 21 (fb_n k) (m1 4 0 + m1 17 (fb_n k))
  if 8 ≤ u then m2 else fb_up m2 14 (fb_n (m 16 (fb_n k))) (m2 4 0 + ((64 * m2 17 (fb_n k) + m2 10 (fb_n (m 16 (fb_n k)))) - 1) / m2 10 (fb_n (m 16 (fb_n k))))
abbrev mf_can (m : fb_S) (u v : Int32) (zero one : Bool) : Bool := if m 23 (fb_n (14 * u + v)) = 0 then zero else one
/-- what a step of choose leaves if it goes on -/
def mf_step (u v : Int32) (zero one : Bool) (m : fb_S) : fb_S :=
  let g := 14 * u + v
  let q := m 23 (fb_n g)
  let m1 := fb_up m 24 (fb_n (2 * g + q)) (if mf_can m u v zero one = true then m 24 (fb_n (2 * g + q)) else 0)
  let m2 := fb_up m1 23 (fb_n g) (1 - q)
  fb_up m2 24 (fb_n (2 * g + (1 - q))) (if (if 1 - q = 0 then zero else one) = true then m2 24 (fb_n (2 * g + (1 - q))) + m2 25 (fb_n (1 - q)) else m2 24 (fb_n (2 * g + (1 - q))))
def mf_last1 (fr : Nat) (u v : Int32) (m : fb_S) : fb_S :=
  let g := 14 * u + v
  let q := m 23 (fb_n g)
  let m1 := mf_begin (mf_first m u v q fr) u m
  fb_up m1 24 (fb_n (2 * g + q)) (m1 24 (fb_n (2 * g + q)) - m1 17 (fb_n (mf_first m u v q fr)))
def mf_steps (fr : Nat) (u v : Int32) (zero one : Bool) : Nat → fb_S → fb_S
  | 0, m => m
  | n + 1, m =>
    if mf_can m u v zero one = true then
      (if m 24 (fb_n (2 * (14 * u + v) + m 23 (fb_n (14 * u + v)))) < m 17 (fb_n (mf_first m u v (m 23 (fb_n (14 * u + v))) fr)) then mf_steps fr u v zero one n (mf_step u v zero one m) else mf_last1 fr u v m)
    else mf_steps fr u v zero one n (mf_step u v zero one m)
/-- with the loop's 'more' -/
def mf_go (fr : Nat) (u v : Int32) (zero one : Bool) (x : Int32) (n : Nat) (m : fb_S) : fb_S := if x = 0 then m else mf_steps fr u v zero one n m
def mf_more (zero one : Bool) : Bool := if zero = true then true else if one = true then true else false
def mf_choose (fr : Nat) (u v : Int32) (m : fb_S) : fb_S := mf_go fr u v (mf_ready m fr u v 0) (mf_ready m fr u v 1) (fb_b (mf_more (mf_ready m fr u v 0) (mf_ready m fr u v 1))) 40 m
def mf_ch1 (fr q : Nat) (m : fb_S) : fb_S :=
  if mf_port (nI q / 14) (nI q - nI q / 14 * 14) = true then (if mf_sends m (nI q / 14) (nI q - nI q / 14 * 14) fr = true then m else mf_choose fr (nI q / 14) (nI q - nI q / 14 * 14) m) else m
def mf_rec1 (q : Nat) (m : fb_S) : fb_S := fb_up m 27 (fb_n ((m 4 0 - m 4 0 / 9 * 9) * 196 + nI q)) (m 26 q)
def mf_tick1 (fl fr : Nat) (m : fb_S) : fb_S :=
  fb_it mf_rec1 196 (fb_it (mf_ch1 fr) 196 (mf_arrivals fr (fb_it (mf_slow fr) fl (fb_it (mf_endOne fr) fr (fb_up m 4 0 (m 4 0 + 1))))))
def mf_ticks (fl fr : Nat) : Nat → fb_S → fb_S
  | 0, m => m
  | n + 1, m => mf_tick1 fl fr (mf_ticks fl fr n m)
def mf_arrived (m : fb_S) : Nat → Int32
  | 0 => 0
  | k + 1 => if m 18 k = 4 then mf_arrived m k + 1 else mf_arrived m k
def mf_tickS (fl fr : Nat) (n : Int32) (m : fb_S) : fb_S := if n < 1 then m else if n ≤ 20 then mf_ticks fl fr (fb_n n) m else m
def mf_tickA (fl fr : Nat) (n : Int32) (m : fb_S) : Int32 := if n < 1 then -1 else if n ≤ 20 then mf_arrived (mf_ticks fl fr (fb_n n) m) fr - mf_arrived m fr else -1
def mf_count (m : fb_S) (f x : Int32) : Nat → Int32
  | 0 => 0
  | k + 1 => if m 16 k = f then (if m 18 k = x then mf_count m f x k + 1 else mf_count m f x k) else mf_count m f x k
def mf_rcv (m : fb_S) (f : Int32) (k : Nat) : Bool := if m 16 k = f then (if m 18 k = 4 then true else false) else false
def mf_last (m : fb_S) (f : Int32) : Nat → Int32
  | 0 => -1
  | k + 1 => if mf_isF m f = true then (if mf_rcv m f k = true then (if mf_last m f k < 0 then nI k else if m 21 k ≤ m 21 (fb_n (mf_last m f k)) then mf_last m f k else nI k) else mf_last m f k) else mf_last m f k
def mf_state (m : fb_S) (k : Int32) : Int32 := if mf_isK m k = true then m 18 (fb_n k) else -1
def mf_nodeQ (m : fb_S) (k : Int32) : Int32 := if mf_isK m k = true then mf_node m (m 16 (fb_n k)) (m 19 (fb_n k)) else -1
def mf_marked (m : fb_S) (k : Int32) : Int32 := if mf_isK m k = true then (if m 22 (fb_n k) = 0 then 0 else 1) else 0
def mf_queued (m : fb_S) (fr : Nat) (u v q : Int32) : Int32 := if mf_port u v = true then (if q = 0 then mf_qlen m u v q fr else if q = 1 then mf_qlen m u v q fr else -1) else -1
def mf_held (m : fb_S) (fr : Nat) (u v q : Int32) : Int32 := if mf_port u v = true then (if q < 0 then -1 else if q ≤ 1 then (if 8 ≤ v then mf_holds m u v q fr else 0) else -1) else -1
def mf_asks (m : fb_S) (u v : Int32) : Int32 := if mf_port u v = true then (if m 26 (fb_n (14 * u + v)) = 0 then 0 else 1) else 0
def mf_pausedQ (m : fb_S) (u v : Int32) : Int32 := if mf_port u v = true then (if mf_paused m u v = true then 1 else 0) else 0
def mf_rate (m : fb_S) (F : Nat) (f : Int32) : Int32 := if mf_isF m f = true then m F (fb_n f) else 0
def mf_cnt (m : fb_S) (fr : Nat) (f x : Int32) : Int32 := if mf_isF m f = true then mf_count m f x fr else 0
def mf_shareA (q x : Int32) : Int32 := if q < 0 then 0 else if 1 < q then 0 else if x < 1 then 0 else if x ≤ 8 then 1 else 0
def mf_share (q x : Int32) (m : fb_S) : fb_S := if q < 0 then m else if 1 < q then m else if x < 1 then m else if x ≤ 8 then fb_up m 25 (fb_n q) x else m
def mf_T (T : Nat) (n : Int32) : Nat := if n < 1 then T else if n ≤ 20 then T + fb_n n else T
/-- flow: is it taken? -/
def mf_flok (z u v q : Int32) : Bool := if u < 0 then false else if 7 < u then false else if v < 0 then false else if 7 < v then false else if u = v then false else if q < 0 then false else if 1 < q then false else if z < 12 then true else false
def mf_flC (m : fb_S) (fl : Nat) (u v q : Int32) : Nat := if u < 0 then fl else if 7 < u then fl else if v < 0 then fl else if 7 < v then fl else if u = v then fl else if q < 0 then fl else if 1 < q then fl else if m 6 0 < 12 then fl + 1 else fl
def mf_flowA (m : fb_S) (u v q : Int32) : Int32 := if u < 0 then -1 else if 7 < u then -1 else if v < 0 then -1 else if 7 < v then -1 else if u = v then -1 else if q < 0 then -1 else if 1 < q then -1 else if m 6 0 < 12 then m 6 0 else -1
def mf_flowU (fl : Nat) (u v q : Int32) (m : fb_S) : fb_S :=
  let m6 := fb_up (fb_up (fb_up (fb_up (fb_up (fb_up m 7 fl u) 8 fl v) 9 fl q) 10 fl 64) 11 fl 64) 12 fl 64
  fb_up m6 6 0 (m6 6 0 + 1)
def mf_flow (fl : Nat) (u v q : Int32) (m : fb_S) : fb_S := if u < 0 then m else if 7 < u then m else if v < 0 then m else if 7 < v then m else if u = v then m else if q < 0 then m else if 1 < q then m else if m 6 0 < 12 then mf_flowU fl u v q m else m
def mf_injA (m : fb_S) (f n : Int32) : Int32 := if mf_isF m f = true then (if n < 1 then -1 else if 4 < n then -1 else if m 15 0 < 100 then m 15 0 else -1) else -1
def mf_frC (m : fb_S) (fr : Nat) (f n : Int32) : Nat := if mf_isF m f = true then (if n < 1 then fr else if 4 < n then fr else if m 15 0 < 100 then fr + 1 else fr) else fr
def mf_injU (fr : Nat) (f n : Int32) (m : fb_S) : fb_S :=
  let m4 := mf_enq fr (fb_up (fb_up (fb_up m 16 fr f) 17 fr n) 19 fr 0)
  fb_up m4 15 0 (m4 15 0 + 1)
def mf_inj (fr : Nat) (f n : Int32) (m : fb_S) : fb_S := if mf_isF m f = true then (if n < 1 then m else if 4 < n then m else if m 15 0 < 100 then mf_injU fr f n m else m) else m
