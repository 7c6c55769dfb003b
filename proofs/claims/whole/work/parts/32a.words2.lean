/-! words of the constructors, by program -/
set_option maxRecDepth 100000 in
theorem zb_554 : Cond.methodLink RX5 1 Lib.objectInit ∈ zBig := zb_of (by decide +kernel) (by decide +kernel)
set_option maxRecDepth 100000 in
theorem zb_555 : Cond.instanceMethod Lib.objectInit ∈ zBig := zb_of (by decide +kernel) (by decide +kernel)
set_option maxRecDepth 100000 in
theorem zb_556 : Cond.code Lib.objectInit ⟨#[0xb1]⟩ 1 none ∈ zBig := zb_of (by decide +kernel) (by decide +kernel)
set_option maxRecDepth 100000 in
theorem zb_557 : Cond.methodLink RX0 3 Lib.objectInit ∈ zBig := zb_of (by decide +kernel) (by decide +kernel)
set_option maxRecDepth 100000 in
theorem zb_558 : Cond.arrayClass .boolean ∈ zBig := zb_of (by decide +kernel) (by decide +kernel)
set_option maxRecDepth 100000 in
theorem zb_559 : Cond.arrayClass .int ∈ zBig := zb_of (by decide +kernel) (by decide +kernel)
set_option maxRecDepth 100000 in
theorem zb_560 : Cond.methodLink RX7 3 Lib.objectInit ∈ zBig := zb_of (by decide +kernel) (by decide +kernel)
set_option maxRecDepth 100000 in
theorem zb_561 : Cond.arrayClass .long ∈ zBig := zb_of (by decide +kernel) (by decide +kernel)
set_option maxRecDepth 100000 in
theorem zb_562 : Cond.methodLink RX2 3 Lib.objectInit ∈ zBig := zb_of (by decide +kernel) (by decide +kernel)
set_option maxRecDepth 100000 in
theorem zb_563 : Cond.methodLink RX1 3 Lib.objectInit ∈ zBig := zb_of (by decide +kernel) (by decide +kernel)
set_option maxRecDepth 100000 in
theorem zb_564 : Cond.methodLink RX8 3 Lib.objectInit ∈ zBig := zb_of (by decide +kernel) (by decide +kernel)
set_option maxRecDepth 100000 in
theorem zb_565 : Cond.methodLink RX4 3 Lib.objectInit ∈ zBig := zb_of (by decide +kernel) (by decide +kernel)
set_option maxRecDepth 100000 in
theorem zb_566 : Cond.classLink RX4 21 RX0 ∈ zBig := zb_of (by decide +kernel) (by decide +kernel)
set_option maxRecDepth 100000 in
theorem zb_567 : Cond.instantiable RX0 6 ∈ zBig := zb_of (by decide +kernel) (by decide +kernel)
set_option maxRecDepth 100000 in
theorem zb_568 : Cond.code yX0_init cX0_init 1 none ∈ zBig := zb_of (by decide +kernel) (by decide +kernel)
set_option maxRecDepth 100000 in
theorem zb_569 : Cond.instanceMethod yX0_init ∈ zBig := zb_of (by decide +kernel) (by decide +kernel)
set_option maxRecDepth 100000 in
theorem zb_570 : Cond.methodLink RX3 3 Lib.objectInit ∈ zBig := zb_of (by decide +kernel) (by decide +kernel)
set_option maxRecDepth 100000 in
theorem zb_571 : Cond.classLink RX3 9 RX5 ∈ zBig := zb_of (by decide +kernel) (by decide +kernel)
set_option maxRecDepth 100000 in
theorem zb_572 : Cond.instantiable RX5 4 ∈ zBig := zb_of (by decide +kernel) (by decide +kernel)
set_option maxRecDepth 100000 in
theorem zb_573 : Cond.code yX5_init cX5_init 1 none ∈ zBig := zb_of (by decide +kernel) (by decide +kernel)
set_option maxRecDepth 100000 in
theorem zb_574 : Cond.instanceMethod yX5_init ∈ zBig := zb_of (by decide +kernel) (by decide +kernel)
set_option maxRecDepth 100000 in
theorem zb_575 : Cond.methodLink RX6 3 Lib.objectInit ∈ zBig := zb_of (by decide +kernel) (by decide +kernel)
set_option maxRecDepth 100000 in
theorem zb_576 : Cond.classLink RX6 19 RX3 ∈ zBig := zb_of (by decide +kernel) (by decide +kernel)
set_option maxRecDepth 100000 in
theorem zb_577 : Cond.instantiable RX3 7 ∈ zBig := zb_of (by decide +kernel) (by decide +kernel)
set_option maxRecDepth 100000 in
theorem zb_578 : Cond.code yX3_init cX3_init 2 none ∈ zBig := zb_of (by decide +kernel) (by decide +kernel)
set_option maxRecDepth 100000 in
theorem zb_579 : Cond.methodLink RX6 21 yX3_init ∈ zBig := zb_of (by decide +kernel) (by decide +kernel)
set_option maxRecDepth 100000 in
theorem zb_580 : Cond.instanceMethod yX3_init ∈ zBig := zb_of (by decide +kernel) (by decide +kernel)
set_option maxRecDepth 100000 in
theorem zb_581 : Cond.methodLink RX9 1 Lib.objectInit ∈ zBig := zb_of (by decide +kernel) (by decide +kernel)
set_option maxRecDepth 100000 in
theorem zb_582 : Cond.classLink RX9 7 RX6 ∈ zBig := zb_of (by decide +kernel) (by decide +kernel)
set_option maxRecDepth 100000 in
theorem zb_583 : Cond.instantiable RX6 13 ∈ zBig := zb_of (by decide +kernel) (by decide +kernel)
set_option maxRecDepth 100000 in
theorem zb_584 : Cond.code yX6_init cX6_init 1 none ∈ zBig := zb_of (by decide +kernel) (by decide +kernel)
set_option maxRecDepth 100000 in
theorem zb_585 : Cond.instanceMethod yX6_init ∈ zBig := zb_of (by decide +kernel) (by decide +kernel)
set_option maxRecDepth 100000 in
theorem zb_586 : Cond.classLink RX9 16 RX8 ∈ zBig := zb_of (by decide +kernel) (by decide +kernel)
set_option maxRecDepth 100000 in
theorem zb_587 : Cond.instantiable RX8 6 ∈ zBig := zb_of (by decide +kernel) (by decide +kernel)
set_option maxRecDepth 100000 in
theorem zb_588 : Cond.code yX8_init cX8_init 1 none ∈ zBig := zb_of (by decide +kernel) (by decide +kernel)
set_option maxRecDepth 100000 in
theorem zb_589 : Cond.instanceMethod yX8_init ∈ zBig := zb_of (by decide +kernel) (by decide +kernel)
set_option maxRecDepth 100000 in
theorem zb_590 : Cond.classLink RX9 23 RX7 ∈ zBig := zb_of (by decide +kernel) (by decide +kernel)
set_option maxRecDepth 100000 in
theorem zb_591 : Cond.instantiable RX7 4 ∈ zBig := zb_of (by decide +kernel) (by decide +kernel)
set_option maxRecDepth 100000 in
theorem zb_592 : Cond.code yX7_init cX7_init 1 none ∈ zBig := zb_of (by decide +kernel) (by decide +kernel)
set_option maxRecDepth 100000 in
theorem zb_593 : Cond.instanceMethod yX7_init ∈ zBig := zb_of (by decide +kernel) (by decide +kernel)
set_option maxRecDepth 100000 in
theorem zb_594 : Cond.classLink RX9 30 RX2 ∈ zBig := zb_of (by decide +kernel) (by decide +kernel)
set_option maxRecDepth 100000 in
theorem zb_595 : Cond.instantiable RX2 2 ∈ zBig := zb_of (by decide +kernel) (by decide +kernel)
set_option maxRecDepth 100000 in
theorem zb_596 : Cond.code yX2_init cX2_init 1 none ∈ zBig := zb_of (by decide +kernel) (by decide +kernel)
set_option maxRecDepth 100000 in
theorem zb_597 : Cond.instanceMethod yX2_init ∈ zBig := zb_of (by decide +kernel) (by decide +kernel)
set_option maxRecDepth 100000 in
theorem zb_598 : Cond.classLink RX9 37 RX1 ∈ zBig := zb_of (by decide +kernel) (by decide +kernel)
set_option maxRecDepth 100000 in
theorem zb_599 : Cond.instantiable RX1 9 ∈ zBig := zb_of (by decide +kernel) (by decide +kernel)
set_option maxRecDepth 100000 in
theorem zb_600 : Cond.code yX1_init cX1_init 1 none ∈ zBig := zb_of (by decide +kernel) (by decide +kernel)
set_option maxRecDepth 100000 in
theorem zb_601 : Cond.instanceMethod yX1_init ∈ zBig := zb_of (by decide +kernel) (by decide +kernel)
set_option maxRecDepth 100000 in
theorem zb_602 : Cond.classLink RX9 44 RX4 ∈ zBig := zb_of (by decide +kernel) (by decide +kernel)
set_option maxRecDepth 100000 in
theorem zb_603 : Cond.instantiable RX4 8 ∈ zBig := zb_of (by decide +kernel) (by decide +kernel)
set_option maxRecDepth 100000 in
theorem zb_604 : Cond.code yX4_init cX4_init 1 none ∈ zBig := zb_of (by decide +kernel) (by decide +kernel)
set_option maxRecDepth 100000 in
theorem zb_605 : Cond.instanceMethod yX4_init ∈ zBig := zb_of (by decide +kernel) (by decide +kernel)
set_option maxRecDepth 100000 in
theorem zb_606 : Cond.methodLink RX10 1 Lib.objectInit ∈ zBig := zb_of (by decide +kernel) (by decide +kernel)
