/-! exact functions of the class, along its bytecode. The class's store: fields
   object (index 0): 0 delay 1 xoff 2 room 3 mark 4 flowCount 5 frameCount 6 time ; 7 quantum[p] ; 8 flows[f] (-1 null) ; 9 frames[k] (-1 null)
   port i: 10 from 11 to 12 turn 13 sending 14 asked 15 askedBefore 16 paused ; 17 credit[p] at 2i+p ; 18 held[p] at 2i+p
   queue j (3i+p, wire 3i+2): 19 first 20 end 21 length
   flow f: 22 priority 23 rate 24 target 25 alpha 26 calm 27 waitsUntil 28 markedNow 29 markedBefore 30 received 31 dropped 32 last ; 33 route[h] at 4f+h 34 route.length
   frame k: 35 number 36 flow 37 length 38 state 39 node 40 marked 41 hop 42 cameBy 43 due 44 next -/
def cf_near (v lo hi : Int32) : Int32 := if lo < (if v < hi then v else hi) then (if v < hi then v else hi) else lo
def cf_host (n : Int32) : Bool := if n < 0 then false else if 8 ≤ n then false else true
def cf_prio (n : Int32) : Bool := if n < 0 then false else if 2 ≤ n then false else true
def cf_leaf (n : Int32) : Int32 := 8 + n / 2
def cf_linked (u v : Int32) : Bool :=
  if cf_host (if v < u then v else u) = true then (if (if u < v then v else u) = cf_leaf (if v < u then v else u) then true else false)
  else if 12 ≤ (if v < u then v else u) then false else if (if u < v then v else u) < 12 then false else true
def cf_was (s : fb_S) (h : Int32) : Bool := if ((h >>> ((s 0 0 - 1) &&& 31)) &&& 1) = 1 then true else false
def cf_latest (h b : Int32) : Int32 := if b = 0 then ((h <<< ((1 : Int32) &&& 31)) ||| 0) &&& 255 else ((h <<< ((1 : Int32) &&& 31)) ||| 1) &&& 255
/-- portBetween: the ports from i on, d of them -/
def cf_pb (s : fb_S) (u v : Int32) : Nat → Nat → Int32
  | 0, _ => -1
  | d + 1, i => if s 10 i = u then (if s 11 i = v then nI i else cf_pb s u v d (i + 1)) else cf_pb s u v d (i + 1)
def cf_flowAt (s : fb_S) (f : Int32) : Int32 := if f < 0 then -1 else if s 4 0 ≤ f then -1 else s 8 (fb_n f)
def cf_frameAt (s : fb_S) (k : Int32) : Int32 := if k < 0 then -1 else if s 5 0 ≤ k then -1 else s 9 (fb_n k)
def cf_add (j k : Nat) (s : fb_S) : fb_S :=
  let s1 := fb_up s 44 k (-1)
  let s2 := if s1 20 j < 0 then fb_up s1 19 j (nI k) else fb_up s1 44 (fb_n (s1 20 j)) (nI k)
  let s3 := fb_up s2 20 j (nI k)
  fb_up s3 21 j (s3 21 j + s3 37 k)
def cf_rem (j : Nat) (s : fb_S) : fb_S :=
  if s 19 j < 0 then s else
  let k := fb_n (s 19 j)
  let s1 := fb_up s 19 j (s 44 k)
  let s2 := if s1 19 j < 0 then fb_up s1 20 j (-1) else s1
  let s3 := fb_up s2 44 k (-1)
  fb_up s3 21 j (s3 21 j - s3 37 k)
/-- portAt: -1 is null -/
def cf_portAt (s : fb_S) (f : Nat) (hop : Int32) : Int32 := if hop < 0 then -1 else if s 34 f ≤ hop then -1 else s 33 (4 * f + fb_n hop)
/-- enqueue: where to, store and answer -/
abbrev cf_enqQ (k : Nat) (s : fb_S) : Int32 := cf_portAt s (fb_n (s 36 k)) (s 41 k)
abbrev cf_enqJ (k : Nat) (s : fb_S) : Nat := 3 * fb_n (cf_enqQ k s) + fb_n (s 22 (fb_n (s 36 k)))
def cf_enq (k : Nat) (s : fb_S) : fb_S :=
  if cf_enqQ k s < 0 then s else
  let s1 := fb_up s 38 k 1
  let s2 := fb_up s1 39 k (s1 10 (fb_n (cf_enqQ k s)))
  cf_add (cf_enqJ k s) k s2
def cf_enqA (k : Nat) (s : fb_S) : Int32 := if cf_enqQ k s < 0 then 0 else cf_enq k s 21 (cf_enqJ k s)
def cf_release (k i : Nat) (s : fb_S) : fb_S :=
  let p := s 22 (fb_n (s 36 k))
  let s1 := fb_up s 18 (2 * i + fb_n p) (s 18 (2 * i + fb_n p) - s 37 k)
  if p = 0 then (if s1 1 0 / 2 < s1 18 (2 * i + fb_n 0) then s1 else fb_up s1 14 i 0) else s1
def cf_endSending (i : Nat) (s : fb_S) : fb_S :=
  if s 13 i < 0 then s else if s 43 (fb_n (s 13 i)) = s 6 0 then
    let k := fb_n (s 13 i)
    let s1 := fb_up s 13 i (-1)
    let s2 := fb_up s1 38 k 3
    let s3 := fb_up s2 43 k (s2 6 0 + s2 0 0)
    let s4 := cf_add (3 * i + 2) k s3
    if s4 42 k < 0 then s4 else cf_release k (fb_n (s4 42 k)) s4
  else s
def cf_place (s : fb_S) (i k : Nat) : Bool :=
  let p := s 22 (fb_n (s 36 k))
  if p = 0 then (if s 1 0 + s 2 0 < s 18 (2 * i + fb_n p) + s 37 k then false else true) else (if s 1 0 < s 18 (2 * i + fb_n p) + s 37 k then false else true)
def cf_hold (i k : Nat) (s : fb_S) : fb_S :=
  let p := s 22 (fb_n (s 36 k))
  let s1 := fb_up s 18 (2 * i + fb_n p) (s 18 (2 * i + fb_n p) + s 37 k)
  let s2 := if p = 0 then (if s1 18 (2 * i + fb_n 0) < s1 1 0 then s1 else fb_up s1 14 i 1) else s1
  let s3 := fb_up s2 42 k (nI i)
  let s4 := fb_up s3 41 k (s3 41 k + 1)
  let s5 := cf_enq k s4
  if cf_enqA k s4 ≤ s5 3 0 then s5 else fb_up s5 40 k 1
def cf_drop (k : Nat) (s : fb_S) : fb_S :=
  let s1 := fb_up s 38 k 5
  fb_up s1 31 (fb_n (s1 36 k)) (s1 31 (fb_n (s1 36 k)) + 1)
def cf_receive (k : Nat) (s : fb_S) : fb_S :=
  let f := fb_n (s 36 k)
  let s1 := fb_up s 38 k 4
  let s2 := fb_up s1 30 f (s1 30 f + 1)
  let s3 := fb_up s2 32 f (s2 35 k)
  if s3 40 k = 0 then s3 else fb_up s3 28 f 1
def cf_deliver (i : Nat) (s : fb_S) : fb_S :=
  if s 19 (3 * i + 2) < 0 then s else if s 43 (fb_n (s 19 (3 * i + 2))) = s 6 0 then
    let k := fb_n (s 19 (3 * i + 2))
    let s1 := cf_rem (3 * i + 2) s
    let s2 := fb_up s1 39 k (s1 11 i)
    if cf_host (s2 11 i) = true then cf_receive k s2 else if cf_place s2 i k = true then cf_hold i k s2 else cf_drop k s2
  else s
def cf_deliverA (i : Nat) (s : fb_S) : Int32 :=
  if s 19 (3 * i + 2) < 0 then 0 else if s 43 (fb_n (s 19 (3 * i + 2))) = s 6 0 then
    let s1 := cf_rem (3 * i + 2) s
    let s2 := fb_up s1 39 (fb_n (s 19 (3 * i + 2))) (s1 11 i)
    if cf_host (s2 11 i) = true then 1 else 0
  else 0
/-- readyFrame: the frame's number or -1 -/
def cf_ready (s : fb_S) (i : Nat) (p : Int32) : Int32 :=
  let z := s 19 (3 * i + fb_n p)
  let r := if cf_host (s 10 i) = true then (if s 27 (fb_n (s 36 (fb_n z))) ≤ s 6 0 then z else -1) else z
  if z < 0 then -1 else if p = 0 then (if s 16 i = 0 then r else -1) else r
def cf_waitFrom (f : Nat) (t n : Int32) (s : fb_S) : fb_S := fb_up s 27 f (t + ((64 * n + s 23 f) - 1) / s 23 f)
def cf_begin (i k : Nat) (s : fb_S) : fb_S :=
  let f := fb_n (s 36 k)
  let s1 := cf_rem (3 * i + fb_n (s 22 f)) s
  let s2 := fb_up s1 17 (2 * i + fb_n (s1 22 f)) (s1 17 (2 * i + fb_n (s1 22 f)) - s1 37 k)
  let s3 := fb_up s2 13 i (nI k)
  let s4 := fb_up s3 38 k 2
  let s5 := fb_up s4 43 k (s4 6 0 + s4 37 k)
  if cf_host (s5 10 i) = true then cf_waitFrom f (s5 6 0) (s5 37 k) s5 else s5
/-- what a step of choose leaves if it goes on -/
def cf_step (i : Nat) (s : fb_S) : fb_S :=
  let t := s 12 i
  let o := 1 - t
  let s1 := if cf_ready s i t < 0 then fb_up s 17 (2 * i + fb_n t) 0 else s
  let s2 := fb_up s1 12 i o
  if cf_ready s i o < 0 then s2 else fb_up s2 17 (2 * i + fb_n o) (s2 17 (2 * i + fb_n o) + s2 7 (fb_n o))
/-- the steps of choose, with how many are left -/
def cf_steps (i : Nat) : Nat → fb_S → fb_S
  | 0, s => s
  | n + 1, s =>
    if cf_ready s i (s 12 i) < 0 then (if cf_ready s i (1 - s 12 i) < 0 then s else cf_steps i n (cf_step i s))
    else if s 17 (2 * i + fb_n (s 12 i)) < s 37 (fb_n (cf_ready s i (s 12 i))) then cf_steps i n (cf_step i s)
    else cf_begin i (fb_n (cf_ready s i (s 12 i))) s
def cf_choose (i : Nat) (s : fb_S) : fb_S := if s 13 i < 0 then cf_steps i 64 s else s
def cf_slow (f : Nat) (s : fb_S) : fb_S :=
  let s1 := fb_up s 24 f (s 23 f)
  let s2 := fb_up s1 23 f (if 1 < s1 23 f - s1 23 f * s1 25 f / 128 then s1 23 f - s1 23 f * s1 25 f / 128 else 1)
  let s3 := fb_up s2 25 f ((15 * s2 25 f + 64) / 16)
  fb_up s3 26 f 0
def cf_recover (f : Nat) (s : fb_S) : fb_S :=
  let s1 := fb_up s 26 f 0
  let s2 := fb_up s1 25 f (15 * s1 25 f / 16)
  fb_up s2 23 f ((s2 23 f + s2 24 f + 1) / 2)
def cf_adjust (f : Nat) (told : Int32) (s : fb_S) : fb_S :=
  if told = 0 then
    let s1 := fb_up s 26 f (s 26 f + 1)
    if s1 26 f = 16 then cf_recover f s1 else s1
  else cf_slow f s
def cf_pause1 (i : Nat) (s : fb_S) : fb_S := fb_up s 16 i (fb_b (cf_was s (s 15 i)))
def cf_rate1 (f : Nat) (s : fb_S) : fb_S := cf_adjust f (fb_b (cf_was s (s 29 f))) s
def cf_memP (i : Nat) (s : fb_S) : fb_S := fb_up s 15 i (cf_latest (s 15 i) (s 14 i))
def cf_memF (f : Nat) (s : fb_S) : fb_S := let s1 := fb_up s 29 f (cf_latest (s 29 f) (s 28 f)); fb_up s1 28 f 0
def cf_remember (fl : Nat) (s : fb_S) : fb_S := fb_it cf_memF fl (fb_it cf_memP 32 s)
/-- deliver over the ports: the sum of the answers -/
def cf_arr (s : fb_S) : Nat → Int32
  | 0 => 0
  | i + 1 => cf_arr s i + cf_deliverA i (fb_it cf_deliver i s)
def cf_before (fl : Nat) (s : fb_S) : fb_S := fb_it cf_rate1 fl (fb_it cf_endSending 32 (fb_it cf_pause1 32 (fb_up s 6 0 (s 6 0 + 1))))
def cf_tick1 (fl : Nat) (s : fb_S) : fb_S := cf_remember fl (fb_it cf_choose 32 (fb_it cf_deliver 32 (cf_before fl s)))
def cf_tick1A (fl : Nat) (s : fb_S) : Int32 := cf_arr (cf_before fl s) 32
def cf_ticks (fl : Nat) : Nat → fb_S → fb_S
  | 0, s => s
  | n + 1, s => cf_tick1 fl (cf_ticks fl n s)
def cf_ticksA (fl : Nat) (s : fb_S) : Nat → Int32
  | 0 => 0
  | n + 1 => cf_ticksA fl s n + cf_tick1A fl (cf_ticks fl n s)
def cf_tickS (fl : Nat) (n : Int32) (s : fb_S) : fb_S := if n < 1 then s else if n ≤ 20 then cf_ticks fl (fb_n n) s else s
def cf_tickA (fl : Nat) (n : Int32) (s : fb_S) : Int32 := if n < 1 then -1 else if n ≤ 20 then cf_ticksA fl s (fb_n n) else -1
def cf_qK (s : fb_S) (F : Nat) (k : Int32) : Int32 := if cf_frameAt s k < 0 then -1 else s F (fb_n (cf_frameAt s k))
def cf_qM (s : fb_S) (k : Int32) : Int32 := if cf_frameAt s k < 0 then 0 else if s 40 (fb_n (cf_frameAt s k)) = 0 then 0 else 1
def cf_qF (s : fb_S) (F : Nat) (f d : Int32) : Int32 := if cf_flowAt s f < 0 then d else s F (fb_n (cf_flowAt s f))
def cf_queued (s : fb_S) (u v q : Int32) : Int32 := if cf_pb s u v 32 0 < 0 then -1 else if cf_prio q = true then s 21 (3 * fb_n (cf_pb s u v 32 0) + fb_n q) else -1
def cf_held (s : fb_S) (u v q : Int32) : Int32 := if cf_pb s u v 32 0 < 0 then -1 else if cf_prio q = true then s 18 (2 * fb_n (cf_pb s u v 32 0) + fb_n q) else -1
def cf_qP (s : fb_S) (F : Nat) (u v : Int32) : Int32 := if cf_pb s u v 32 0 < 0 then 0 else if s F (fb_n (cf_pb s u v 32 0)) = 0 then 0 else 1
def cf_shareA (q x : Int32) : Int32 := if cf_prio q = true then (if x < 1 then 0 else if x ≤ 8 then 1 else 0) else 0
def cf_share (q x : Int32) (s : fb_S) : fb_S := if cf_prio q = true then (if x < 1 then s else if x ≤ 8 then fb_up s 7 (fb_n q) x else s) else s
/-- Integer.bitCount, as the JDK has it -/
def cf_b1 (n : Int32) : Int32 := n - (((n.toUInt32 >>> ((1 : Int32).toUInt32 &&& Int32.toUInt32 31)).toInt32) &&& 1431655765)
def cf_b2 (n : Int32) : Int32 := (cf_b1 n &&& 858993459) + ((((cf_b1 n).toUInt32 >>> ((2 : Int32).toUInt32 &&& Int32.toUInt32 31)).toInt32) &&& 858993459)
def cf_b3 (n : Int32) : Int32 := (cf_b2 n + (((cf_b2 n).toUInt32 >>> ((4 : Int32).toUInt32 &&& Int32.toUInt32 31)).toInt32)) &&& 252645135
def cf_b4 (n : Int32) : Int32 := cf_b3 n + (((cf_b3 n).toUInt32 >>> ((8 : Int32).toUInt32 &&& Int32.toUInt32 31)).toInt32)
def cf_b5 (n : Int32) : Int32 := cf_b4 n + (((cf_b4 n).toUInt32 >>> ((16 : Int32).toUInt32 &&& Int32.toUInt32 31)).toInt32)
def cf_bits (n : Int32) : Int32 := cf_b5 n &&& 63
abbrev cf_spine (num : Int32) : Int32 := 12 + (cf_bits num - cf_bits num / 2 * 2)
def cf_rtN (u v : Int32) : Nat := if cf_leaf u = cf_leaf v then 2 else 4
def cf_rt (s : fb_S) (num u v : Int32) (j : Nat) : Int32 :=
  if cf_leaf u = cf_leaf v then (if j = 0 then cf_pb s u (cf_leaf u) 32 0 else if j = 1 then cf_pb s (cf_leaf u) v 32 0 else -1)
  else (if j = 0 then cf_pb s u (cf_leaf u) 32 0 else if j = 1 then cf_pb s (cf_leaf u) (cf_spine num) 32 0 else if j = 2 then cf_pb s (cf_spine num) (cf_leaf v) 32 0 else if j = 3 then cf_pb s (cf_leaf v) v 32 0 else -1)
