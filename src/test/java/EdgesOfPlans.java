/** The edges of the language of PLANS: its limits, what each thing is worth, and its FAULTS. */
public final class EdgesOfPlans {
    /** 65536 to the fourth, by 2: the least of all 64 bit numbers. */
    private static final String LEAST_LONG = "65536 * 65536 * 65536 * 32768";

    // ---- clauses

    private static void clauses() {
        Edge.test(13, "PLANS 0 to 5: texts of at most 400 bytes.", () -> {
            LooseWater x = new LooseWater();
            for (int i = 0; i < 6; i++) Edge.due("plan " + i, Edge.plan(x, "pace " + i), i);
            Edge.due("a seventh", Edge.plan(x, "pace 6"), -1);
            Edge.good("pace 1" + Edge.times(" ", 394));
            Edge.good(Edge.times(" ", 394) + "pace 1");
            Edge.good("shift 1" + Edge.times(" ", 391) + "+2");
            Edge.fault("shift 1" + Edge.times(" ", 392) + "+", 400, 0);
            Edge.fault("pace 1" + Edge.times(" ", 393) + "m", 399, 0);
            Edge.fault(Edge.times("a", 400), 0, 0);
            Edge.fault(Edge.times("[", 400), 0, 0);
            LooseWater y = new LooseWater();
            for (int i = 0; i < 20; i++) y.feed(0x20202020, 0x20202020, 0x20202020, 0x20202020, 0x20202020);
            Edge.due("no more than 400", y.feed(0x20202020, 0x20202020, 0x20202020, 0x20202020, 0x20202020), -1);
            // the end is behind the last byte
            Edge.due("400 blanks", y.plan(), -2 - (1 + 8 * 400));
        });
        Edge.test(13, "CLAUSE { ; CLAUSE }, 12 at most", () -> {
            Edge.good("pace 1");
            Edge.good(Edge.times("pace 1;", 11) + "pace 1");
            Edge.fault(Edge.times("pace 1;", 12) + "pace 1", 84, 4);
            Edge.fault("", 0, 0);
            Edge.fault(";", 0, 0);
            Edge.fault("pace 1;", 7, 0);
            Edge.fault("pace 1;;pace 1", 7, 0);
            Edge.fault(";pace 1", 0, 0);
            Edge.fault("pace 1 pace 1", 7, 0);
        });
        Edge.test(14, "CLAUSE { ; CLAUSE }, 12 at most", () -> {
            LooseWater x = Edge.leaf();
            x.place(0, 100, 100, 100, 1, 0);
            Edge.plan(x, Edge.times("fill a 1;", 11) + "fill a 30");
            x.run(0, 1);
            Edge.due("all twelve are done", x.of(0, 0), 41);
        });
        Edge.test(13, "each with an if TEST behind it, or not", () -> {
            Edge.good("pace 1;pace 2 if a<1;pace 3;pace 4 if b<1");
            Edge.good(Edge.times("pace 1 if a<1;", 11) + "pace 1 if a<1");
            Edge.fault("pace 1 if", 9, 0);
            Edge.fault("pace 1 if;pace 2", 9, 0);
            Edge.fault("pace 1 a<1", 7, 0);
            Edge.fault("pace 1 if a<1 if b<1", 14, 0);
            Edge.fault("if a<1", 0, 0);
        });
        Edge.test(13, "pump PLACE NUMBER | fill PLACE NUMBER | cross PLACE PLACE NUMBER | pace NUMBER (0 to 99) | shift SUM.", () -> {
            Edge.good("pump a 1");
            Edge.good("fill a 1");
            Edge.good("cross a b 1");
            Edge.good("pace 0");
            Edge.good("pace 99");
            Edge.good("shift 1");
            Edge.fault("pace 100", 5, 1);
            Edge.fault("pace 99999", 5, 1);
            Edge.fault("pump", 4, 0);
            Edge.fault("pump a", 6, 0);
            Edge.fault("pump 1", 5, 0);
            Edge.fault("pump a b 1", 7, 0);
            Edge.fault("fill", 4, 0);
            Edge.fault("fill a a", 7, 0);
            Edge.fault("cross a", 7, 0);
            Edge.fault("cross a b", 9, 0);
            Edge.fault("cross a 1", 8, 0);
            Edge.fault("cross a b c 1", 10, 0);
            Edge.fault("pace", 4, 0);
            Edge.fault("pace a 1", 5, 0);
            Edge.fault("pace round", 5, 0);
            Edge.fault("pump a 1+1", 8, 0);
            Edge.fault("pace 1+1", 6, 0);
            Edge.fault("shift", 5, 0);
            Edge.fault("stop 1", 0, 0);
            Edge.fault("lean", 0, 0);
            Edge.fault("5", 0, 0);
        });
        Edge.test(13, "Other NUMBERS are 0 to 9999.", () -> {
            for (String verb : new String[] {"pump a ", "fill a ", "cross a b "}) {
                Edge.good(verb + "0");
                Edge.good(verb + "9999");
                Edge.good(verb + "09999");
                Edge.fault(verb + "10000", verb.length(), 1);
                Edge.fault(verb + "99999", verb.length(), 1);
                Edge.fault(verb + "-1", verb.length(), 0);
            }
        });
        Edge.test(13, "PLACE: a letter a to l as a WORD.", () -> {
            Edge.good("pump a 1");
            Edge.good("pump l 1");
            Edge.good("cross l a 1");
            Edge.good("pump a1");
            Edge.fault("pump m 1", 5, 0);
            Edge.fault("pump z 1", 5, 0);
            Edge.fault("pump A 1", 5, 0);
            Edge.fault("pump ab 1", 5, 0);
            Edge.fault("pump aa 1", 5, 0);
            Edge.fault("pumpa 1", 0, 0);
            Edge.fault("cross ab 1", 6, 0);
            Edge.fault("cross a m 1", 8, 0);
            Edge.fault("pump ` 1", 5, 0);
            Edge.fault("pump { 1", 5, 0);
            Edge.fault("pump lean 1", 5, 0);
        });
    }

    // ---- tests and sums

    private static void grammar() {
        Edge.test(14, "TEST: PART { or PART }. PART: FACT { and FACT }.", () -> {
            Edge.holds(Edge.leaf(), "1=2 and 1=2 or 1=1", true);
            Edge.holds(Edge.leaf(), "1=1 or 1=2 and 1=2", true);
            Edge.holds(Edge.leaf(), "[1=1 or 1=2] and 1=2", false);
            Edge.holds(Edge.leaf(), "1=1 and [1=2]", false);
            Edge.holds(Edge.leaf(), "1=2 or [1=1]", true);
            Edge.holds(Edge.leaf(), "1=1 and [1=2 or 1=1]", true);
            Edge.holds(Edge.leaf(), "1=1 or [1=1 and 1=2]", true);
            Edge.holds(Edge.leaf(), "1=2 or 1=2 or 1=1", true);
            Edge.holds(Edge.leaf(), "1=1 and 1=1 and 1=2", false);
            Edge.holds(Edge.leaf(), "1=1 and 1=2 or 1=2 and 1=1", false);
            Edge.fault("pace 1 if a<1 and", 17, 0);
            Edge.fault("pace 1 if a<1 or", 16, 0);
            Edge.fault("pace 1 if and a<1", 10, 0);
            Edge.fault("pace 1 if a<1 and or b<1", 18, 0);
            Edge.fault("pace 1 if a<1 b<1", 14, 0);
            Edge.fault("pace 1 if a<1 nor b<1", 14, 0);
        });
        Edge.test(14, "FACT: not FACT | [ TEST ] (these brackets are signs) | SUM SIGN SUM, SIGN one of < <= = >= >.", () -> {
            String[] signs = {"<", "<=", "=", ">=", ">"};
            boolean[][] told = {{true, false, false}, {true, true, false}, {false, true, false}, {false, true, true}, {false, false, true}};
            for (int i = 0; i < 5; i++) {
                for (int n = 0; n < 3; n++) {
                    String fact = (n + 4) + signs[i] + "5";
                    Edge.holds(Edge.leaf(), fact, told[i][n]);
                    Edge.holds(Edge.leaf(), "not " + fact, !told[i][n]);
                    Edge.holds(Edge.leaf(), fact + " and 1=1", told[i][n]);
                    Edge.holds(Edge.leaf(), "not [" + fact + " and 1=1]", !told[i][n]);
                    Edge.holds(Edge.leaf(), fact + " or 1=2", told[i][n]);
                }
            }
            Edge.holds(Edge.leaf(), "not 1=2", true);
            Edge.holds(Edge.leaf(), "not not 1=2", false);
            Edge.holds(Edge.leaf(), "not 1=2 and 1=2", false);
            Edge.holds(Edge.leaf(), "not [1=2 and 1=2]", true);
            Edge.holds(Edge.leaf(), "[[1=1]]", true);
            Edge.fault("pace 1 if []", 11, 0);
            Edge.fault("pace 1 if [a<1", 14, 0);
            Edge.fault("pace 1 if [a<1 ;pace 2", 15, 0);
            Edge.fault("pace 1 if a<1]", 13, 0);
            Edge.fault("pace 1 if [a]<1", 12, 0);
            Edge.fault("pace 1 if (a<1)", 10, 0);
            Edge.fault("pace 1 if not", 13, 0);
            Edge.fault("pace 1 if a not<1", 12, 0);
            Edge.fault("pace 1 if a", 11, 0);
            Edge.fault("pace 1 if a<", 12, 0);
            Edge.fault("pace 1 if <1", 10, 0);
            Edge.fault("pace 1 if a<1<2", 13, 0);
            Edge.fault("pace 1 if a==1", 12, 0);
            Edge.fault("pace 1 if a=<1", 12, 0);
            Edge.fault("pace 1 if a=>1", 12, 0);
            Edge.fault("pace 1 if a<>1", 12, 0);
            Edge.fault("pace 1 if a< =1", 13, 0);
            Edge.fault("pace 1 if a> =1", 13, 0);
            Edge.fault("pace 1 if a<==1", 13, 0);
            Edge.fault("pace 1 if a!1", 11, 0);
        });
        Edge.test(14, "SUM: TERM { (+ or -) TERM }. TERM: VALUE { (* or /) VALUE }.", () -> {
            Edge.worth(Edge.leaf(), "2+3*4", 14);
            Edge.worth(Edge.leaf(), "2*3+4", 10);
            Edge.worth(Edge.leaf(), "20-3-4", 13);
            Edge.worth(Edge.leaf(), "20-3+4", 21);
            Edge.worth(Edge.leaf(), "100/7*7", 98);
            Edge.worth(Edge.leaf(), "100/7/7", 2);
            Edge.worth(Edge.leaf(), "1-2*3-4*5/6", -8);
            Edge.fault("shift -1", 6, 0);
            Edge.fault("shift +1", 6, 0);
            Edge.fault("shift 1+", 8, 0);
            Edge.fault("shift 1*", 8, 0);
            Edge.fault("shift 1+*2", 8, 0);
            Edge.fault("shift 1--1", 8, 0);
            Edge.fault("shift 1 2", 8, 0);
            Edge.fault("shift [1]", 6, 0);
            Edge.fault("shift 1 < 2", 8, 0);
            Edge.fault("shift 7%2", 7, 0);
        });
        Edge.test(14, "VALUE: NUMBER (0 to 99999, 1 to 5 digits, as far as digits go on) | WORD.", () -> {
            Edge.worth(Edge.leaf(), "0", 0);
            Edge.worth(Edge.leaf(), "00000", 0);
            Edge.worth(Edge.leaf(), "9", 9);
            Edge.worth(Edge.leaf(), "99999", 99999);
            Edge.worth(Edge.leaf(), "00012", 12);
            Edge.fault("shift 100000", 6, 1);
            Edge.fault("shift 000000", 6, 1);
            Edge.fault("shift 99999999999999999999", 6, 1);
            Edge.fault("shift 1+000001", 8, 1);
            Edge.fault("shift 99999 9", 12, 0);
            Edge.fault("shift 1.5", 7, 0);
            Edge.fault("pace 1 if 123456<1", 10, 1);
            Edge.fault("pace 1 if 1<123456", 12, 1);
        });
        Edge.test(14, "WORDS (small letters, as far as these go on)", () -> {
            Edge.fault("shift leans", 6, 0);
            Edge.fault("shift mean", 6, 0);
            Edge.fault("shift leam", 6, 0);
            Edge.fault("shift stift", 6, 0);
            Edge.fault("dace 1", 0, 0);
            Edge.fault("crossa b 1", 0, 0);
            Edge.fault("shift lea", 6, 0);
            Edge.fault("shift leanside", 6, 0);
            Edge.fault("shift Lean", 6, 0);
            Edge.fault("shift leaN", 6, 0);
            Edge.fault("shift m", 6, 0);
            Edge.fault("shift pump", 6, 0);
            Edge.fault("shift if", 6, 0);
            Edge.fault("shift not", 6, 0);
            Edge.fault("shift lean2side", 10, 0);
            Edge.fault("paces 1", 0, 0);
            Edge.fault("pac 1", 0, 0);
            Edge.fault("p", 0, 0);
            Edge.fault("pace 1 iff a<1", 7, 0);
            Edge.fault("pace 1 ifa<1", 7, 0);
            Edge.fault("pace 1 if nota<1", 10, 0);
            Edge.fault("pace 1 if a<1 andb<1", 14, 0);
            Edge.good("pace 1if 2<a and 3<b or not 4<c");
            Edge.good("pace 1if 2<3and 3<4or 4<5");
            Edge.good("shift total/stiff");
        });
    }

    // ---- what words are worth

    private static void words() {
        Edge.test(14, "lean (without sign), side (1, 0, -1: the sign of LEAN), round, draft, pace, total, stiff (see III)", () -> {
            int[][] told = {{-59, -1}, {-1, -1}, {0, 0}, {1, 1}, {59, 1}};
            for (int[] t : told) {
                LooseWater x = Edge.leaf();
                x.sets(2, t[0]);
                Edge.worth(x, "lean", Math.abs(t[0]));
                LooseWater y = Edge.leaf();
                y.sets(2, t[0]);
                Edge.worth(y, "side", t[1]);
            }
            LooseWater x = Edge.leaf();
            Edge.worth(x, "round", 0);
            x.run(0, 1);
            Edge.due("round in its second round", x.tells(2), 1);
            LooseWater y = Edge.crank();
            Edge.worth(y, "draft", 100);
            y = Edge.leaf();
            y.sets(1, 99);
            Edge.worth(y, "pace", 99);
            y = Edge.crank();
            y.cargo(9, 9, 9, 9);
            Edge.worth(y, "total", 1009);
            // (0 - 44000) * 1000 by 88000
            Edge.worth(Edge.crank(), "stiff", -500);
            // (3000 - 0) * 1000 by 88: the most there is
            y = Edge.leaf();
            y.form(1, 3000);
            Edge.worth(y, "stiff", 34090);
        });
        Edge.test(14, "a to l (WATER of that PLACE; 0 without it)", () -> {
            LooseWater x = Edge.leaf();
            for (int i = 0; i < 12; i++) {
                x.place(0, 100, 100, 100, 1, 0);
                x.water(i, i + 1);
            }
            Edge.worth(x, "a", 1);
            x = Edge.leaf();
            for (int i = 0; i < 12; i++) {
                x.place(0, 100, 100, 100, 1, 0);
                x.water(i, i + 1);
            }
            Edge.worth(x, "l * 1000 + k", 12011);
            Edge.worth(Edge.leaf(), "a + l", 0);
            x = Edge.leaf();
            x.place(0, 100, 100, 100, 1, 0);
            x.water(0, 100);
            Edge.worth(x, "a * 1000 + b", 99999);
            x = Edge.leaf();
            x.place(0, 100, 100, 100, 1, 0);
            Edge.worth(x, "7 + a", 7);
        });
        Edge.test(14, "/ is towards 0, 0 by 0", () -> {
            Edge.worth(Edge.leaf(), "7/2", 3);
            Edge.worth(Edge.leaf(), "1/2", 0);
            LooseWater x = Edge.leaf();
            x.sets(2, -1);
            Edge.worth(x, "side*7/2", -3);
            x = Edge.leaf();
            x.sets(2, -1);
            Edge.worth(x, "7/side/2", -3);
            x = Edge.leaf();
            x.sets(2, -1);
            Edge.worth(x, "side/2", 0);
            Edge.worth(Edge.leaf(), "5/0", 0);
            Edge.worth(Edge.leaf(), "0/0", 0);
            Edge.worth(Edge.leaf(), "5/a+2", 2);
            Edge.worth(Edge.leaf(), "9/0*4+1", 1);
            Edge.holds(Edge.leaf(), "1/0=0", true);
        });
        Edge.test(14, "all goes round in 64 bits.", () -> {
            Edge.holds(Edge.leaf(), LEAST_LONG + " < 0", true);
            Edge.holds(Edge.leaf(), LEAST_LONG + " - 1 > 0", true);
            Edge.holds(Edge.leaf(), LEAST_LONG + " - 1 + 1 < 0", true);
            Edge.holds(Edge.leaf(), "65536 * 65536 * 65536 * 65536 = 0", true);
            Edge.holds(Edge.leaf(), "65536 * 65536 * 65536 * 65536 + 5 = 5", true);
            // 2 to the 62nd twice
            Edge.holds(Edge.leaf(), "65536 * 65536 * 65536 * 16384 + 65536 * 65536 * 65536 * 16384 < 0", true);
            LooseWater x = Edge.leaf();
            x.sets(2, -1);
            Edge.holds(x, LEAST_LONG + " / side = " + LEAST_LONG, true);
            x = Edge.leaf();
            x.sets(2, -1);
            Edge.holds(x, LEAST_LONG + " * side < 0", true);
            Edge.worth(Edge.leaf(), LEAST_LONG, -99999);
            Edge.worth(Edge.leaf(), LEAST_LONG + " - 1", 99999);
            // 99996000059999600001 less 5 * 2 ^ 64 is 7762279691451841921, below 2 ^ 63
            Edge.worth(Edge.leaf(), "99999 * 99999 * 99999 * 99999", 99999);
        });
        Edge.test(13, "Blanks (32) stand between as one likes.", () -> {
            Edge.good("   pace   1   ");
            Edge.good("pump a5;fill b5;cross c d5;shift 1");
            Edge.good("shift  1 +  2 *a/ b -3");
            Edge.good("pace 1 if[a<1]and[b<1]or not[c<1]");
            Edge.fault("pace\t1", 4, 0);
            Edge.fault("pace 1\n", 6, 0);
            Edge.fault("pace 1" + (char) 0, 6, 0);
            Edge.fault("pace" + (char) 160 + "1", 4, 0);
            Edge.fault("pa ce 1", 0, 0);
            Edge.fault("pace 1 if a< =1", 13, 0);
            Edge.fault("shift 1 0", 8, 0);
        });
    }

    // ---- limits and faults

    private static void limits() {
        Edge.test(13, "[ and not lie within one another 10 deep at most", () -> {
            Edge.good("pace 1 if " + Edge.times("[", 10) + "a<1" + Edge.times("]", 10));
            Edge.good("pace 1 if " + Edge.times("not ", 10) + "a<1");
            Edge.good("pace 1 if " + Edge.times("not[", 5) + "a<1" + Edge.times("]", 5));
            Edge.good("pace 1 if " + Edge.times("[", 10) + "a<1" + Edge.times("]", 10)
                    + " and " + Edge.times("[", 10) + "a<1" + Edge.times("]", 10)
                    + " or " + Edge.times("not ", 10) + "a<1");
            Edge.good("pace 1 if " + Edge.times("[", 9) + "[a<1] and [a<1]" + Edge.times("]", 9)
                    + ";pace 1 if " + Edge.times("[", 10) + "a<1" + Edge.times("]", 10));
            Edge.fault("pace 1 if " + Edge.times("[", 11) + "a<1" + Edge.times("]", 11), 20, 2);
            Edge.fault("pace 1 if " + Edge.times("not ", 11) + "a<1", 50, 2);
            Edge.fault("pace 1 if " + Edge.times("not[", 5) + "not a<1", 30, 2);
            Edge.fault("pace 1 if " + Edge.times("[not ", 5) + "[a<1", 35, 2);
            Edge.fault("pace 1 if " + Edge.times("[", 9) + "[a<1] and [[a<1", 30, 2);
        });
        Edge.test(14, "[ and not lie within one another 10 deep at most", () -> {
            Edge.holds(Edge.leaf(), Edge.times("not ", 10) + "1=1", true);
            Edge.holds(Edge.leaf(), Edge.times("not ", 9) + "1=1", false);
            Edge.holds(Edge.leaf(), Edge.times("not[", 5) + "1=1" + Edge.times("]", 5), false);
        });
        Edge.test(13, "at most 60 VALUES (of SUMS) and FACTS made of a SIGN, together.", () -> {
            Edge.good("shift " + Edge.times("1+", 59) + "1");
            Edge.fault("shift " + Edge.times("1+", 60) + "1", 126, 3);
            Edge.good("pace 1 if " + Edge.times("a<1 or ", 19) + "a<1");
            Edge.fault("pace 1 if " + Edge.times("a<1 or ", 20) + "a<1", 150, 3);
            // over all clauses together; the numbers of other clauses are none
            Edge.good("shift " + Edge.times("1+", 29) + "1;shift " + Edge.times("1+", 29) + "1;pump a 1;pace 5");
            Edge.fault("shift " + Edge.times("1+", 29) + "1;shift " + Edge.times("1+", 29) + "1;shift 7", 138, 3);
            // 57 and a fact of three make 60; brackets and not are none
            Edge.good("shift " + Edge.times("1+", 56) + "1 if not [not [a<1]]");
        });
        Edge.test(14, "at most 60 VALUES (of SUMS) and FACTS made of a SIGN, together.", () -> {
            Edge.worth(Edge.leaf(), Edge.times("1+", 59) + "1", 60);
            LooseWater x = Edge.leaf();
            for (int i = 0; i < 6; i++) Edge.due("six plans of sixty", Edge.plan(x, "shift " + Edge.times("1+", 59) + i), i);
            for (int i = 5; i >= 0; i--) {
                x.run(i, 1);
                Edge.due("the plan " + i, x.tells(2), 59 + i);
            }
            // twenty facts joined so that all of them are looked at
            Edge.holds(Edge.leaf(), Edge.times("1<1 or ", 19) + "1=1", true);
            Edge.holds(Edge.leaf(), Edge.times("1=1 and ", 19) + "1<1", false);
        });
    }

    private static void faults() {
        Edge.test(13, "FAULTS, the first along the text, 1 + 8 * its place and: 0 a byte or WORD that can't stand there", () -> {
            Edge.fault("!", 0, 0);
            Edge.fault("pace 1!", 6, 0);
            Edge.fault("pace 1 x", 7, 0);
            Edge.fault("pace 1" + (char) 255, 6, 0);
            Edge.fault("pace 1" + (char) 128, 6, 0);
            Edge.fault("pace 1" + (char) 0, 6, 0);
            // the first one alone: what stands behind it is nothing to it
            Edge.fault("pace ! 123456 [[[[[[[[[[[[[", 5, 0);
            Edge.fault("pace 100 !", 5, 1);
            Edge.fault("pace 123456; stop", 5, 1);
            Edge.fault("shift 123456 + m", 6, 1);
        });
        Edge.test(13, "or the end (behind the last byte)", () -> {
            Edge.fault("", 0, 0);
            Edge.fault(" ", 1, 0);
            Edge.fault("pace", 4, 0);
            Edge.fault("pace   ", 7, 0);
            Edge.fault("pace 1 if a<1 and  ", 19, 0);
            Edge.fault("pace 1; ", 8, 0);
            Edge.fault("pace 1" + Edge.times(" ", 393) + ";", 400, 0);
        });
        Edge.test(13, "1 a NUMBER of more digits, or not as told", () -> {
            Edge.fault("pump a 000001", 7, 1);
            Edge.fault("pump a 10000", 7, 1);
            Edge.fault("pace 000001", 5, 1);
            Edge.fault("pace 00100", 5, 1);
            Edge.fault("shift 100000", 6, 1);
            Edge.fault("shift " + Edge.times("9", 394), 6, 1);
            // where no NUMBER can stand it is the byte that can't
            Edge.fault("pace 1 123456", 7, 0);
            Edge.fault("123456", 0, 0);
            Edge.fault("pump 123456", 5, 0);
        });
        Edge.test(13, "2 too deep (at the sign that opens, or the word not)", () -> {
            Edge.fault("pace 1 if " + Edge.times("[ ", 11) + "a<1", 30, 2);
            Edge.fault("pace 1 if " + Edge.times("[ ", 10) + "not a<1", 30, 2);
            Edge.fault("pace 1 if " + Edge.times("not ", 10) + "[a<1]", 50, 2);
            Edge.fault("pace 1 if " + Edge.times("[", 10) + "   [ !", 23, 2);
            Edge.fault("pace 1 if " + Edge.times("[", 10) + "nota", 20, 0);
        });
        Edge.test(13, "3 one VALUE or FACT too many (at its first byte; of a FACT at its SIGN)", () -> {
            Edge.fault("shift " + Edge.times("1+", 60) + " 99", 127, 3);
            Edge.fault("shift " + Edge.times("1+", 60) + "stiff", 126, 3);
            // 58 values and two of a fact: its sign is the 60th, and the second of its values the 61st
            Edge.fault("shift " + Edge.times("1+", 57) + "1 if a<1", 127, 3);
            // 59 values and the first of a fact: its sign is the 61st
            Edge.fault("shift " + Edge.times("1+", 58) + "1 if a <= 1", 129, 3);
            // 60 values: the first of a fact is the 61st
            Edge.fault("shift " + Edge.times("1+", 59) + "1 if a<1", 129, 3);
        });
        Edge.test(13, "4 a thirteenth CLAUSE (at its first byte).", () -> {
            Edge.fault(Edge.times("pace 1;", 12) + "pace 1", 84, 4);
            Edge.fault(Edge.times("pace 1;", 12) + "   shift", 87, 4);
            Edge.fault(Edge.times("pace 1;", 12) + "pump a 123456", 84, 4);
            Edge.fault(Edge.times("pace 1;", 12), 84, 0);
            Edge.fault(Edge.times("pace 1;", 12) + "  ", 86, 0);
        });
        Edge.test(13, "Of one place the least.", () -> {
            // a thirteenth clause whose word can begin none; a 61st value that is none, or too long
            Edge.fault(Edge.times("pace 1;", 12) + "lean", 84, 0);
            Edge.fault(Edge.times("pace 1;", 12) + "7", 84, 0);
            Edge.fault("shift " + Edge.times("1+", 60) + "m", 126, 0);
            Edge.fault("shift " + Edge.times("1+", 60) + ";", 126, 0);
            Edge.fault("shift " + Edge.times("1+", 60) + "123456", 126, 1);
        });
    }

    public static void main(String[] args) {
        clauses();
        grammar();
        words();
        limits();
        faults();
        Edge.finish();
    }
}
