/** '4 WEAVING': each byte of the WOVEN code, how far jumps reach, how long it may be. */
final class WeaveEdges {
    private WeaveEdges() {
    }

    static void all(Edges edges) {
        edges.chapter("======== 4");
        edges.test("WEAVING a METHOD puts in INSTRUCTIONS of 2 bytes, an OP and the PROBE's number: 48 PASS, 50 ENTER, "
                + "51 LEAVE (the INT on top stays), 52 LEFT (the KIND on top stays), 53 OLD (keeps what is there), 54 "
                + "NEW (makes both RECORDS), 55 CAUGHT (the KIND on top stays), 56 FAULT, 57 REPLACE; 49 SIDE has 3: "
                + "OP, PROBE, the side (0, 1); 58 AGAIN (i :) 1 byte: throws i as it is, out of the FRAME.",
                WeaveEdges::ops);
        edges.test("The WOVEN code: each ENTER; then for each INSTRUCTION of the CODE, in order, its GROUP: PASS, FAULT "
                + "by numbers; LEAVE of the METHOD, ahead of a give; OLD of each STORE; the INSTRUCTION itself; behind "
                + "it, by numbers: NEW of STORE, REPLACE, SIDE with 0.", WeaveEdges::groups);
        edges.test("Then PADS: for each jump that has SIDES, in order: SIDES with 1, by numbers, and 20 to where it "
                + "led; it leads to its PAD itself.", WeaveEdges::sidePads);
        edges.test("Then for each HANDLER, in order, whose TARGET has CAUGHT PROBES: these, and 20 to the TARGET; its "
                + "TARGET is the PAD.", WeaveEdges::caughtPads);
        edges.test("Then, if the METHOD has LEAVE PROBES: LEFT of each, AGAIN: the TARGET of one more HANDLER, of KIND "
                + "0, the last one, from the first GROUP to the first PAD (or this one).", WeaveEdges::leftPad);
        edges.test("A jump, a TARGET without PAD, leads to the beginning of a GROUP;", WeaveEdges::toGroups);
        edges.test("FROM and TO become those of the GROUPS that begin there (TO LENGTH: the end of the last GROUP).",
                WeaveEdges::ranges);
        edges.test("table has its numbers anew.", WeaveEdges::tables);
        edges.test("Jumps (also those of PADS) are as they were told at first (20 .. 32 short, 84 .. 96 long);",
                WeaveEdges::asTold);
        edges.test("then all is laid; short ones that do not reach become long; again until all reach.",
                WeaveEdges::reach);
        edges.test("A METHOD is WOVEN anew by weave() alone: PROBES that come later do not change it till then.",
                WeaveEdges::later);
        edges.test("A WOVEN code has 1000 bytes at most.", WeaveEdges::most1000);
        edges.test("RUNS: MANNER 0 plain (no PROBES), 1 woven: each METHOD runs by its WOVEN code (one that was not "
                + "woven as it is); 2 watched: as the METHODS stand, with what the PROBES that were woven into them "
                + "say.", WeaveEdges::manners);
        edges.test("STEPS are the INSTRUCTIONS of the CODE alone.", WeaveEdges::stepsOfTheCode);
        edges.test("1 and 2 agree in all.", WeaveEdges::agree);
    }

    private static void ops() {
        // Each SORT alone, as PROBE 23 behind others of another METHOD: its number is a byte.
        int[] code = {1, 5, 35, 0, 34, 0, 21, 3, 0, 1, 7, 42, 42};
        int[][] handlers = {{0, 2, 12, 0}};
        int[][] sorts = {{0, 2}, {1, 6}, {2, 0}, {3, 0}, {4, 2}, {5, 12}, {6, 2}, {7, 4}};
        int[][] woven = {
            {1, 5, 48, 23, 35, 0, 34, 0, 21, 3, 0, 1, 7, 42, 42},
            {1, 5, 35, 0, 34, 0, 21, 10, 49, 23, 0, 0, 1, 7, 42, 42, 49, 23, 1, 20, -7},
            {50, 23, 1, 5, 35, 0, 34, 0, 21, 3, 0, 1, 7, 42, 42},
            {1, 5, 35, 0, 34, 0, 21, 3, 0, 1, 7, 51, 23, 42, 51, 23, 42, 52, 23, 58},
            {1, 5, 53, 23, 35, 0, 54, 23, 34, 0, 21, 3, 0, 1, 7, 42, 42},
            {1, 5, 35, 0, 34, 0, 21, 3, 0, 1, 7, 42, 42, 55, 23, 20, -3},
            {1, 5, 56, 23, 35, 0, 34, 0, 21, 3, 0, 1, 7, 42, 42},
            {1, 5, 35, 0, 34, 0, 57, 23, 21, 3, 0, 1, 7, 42, 42}};
        for (int i = 0; i < sorts.length; i++) {
            ProbeLoom x = Kit.loomOf(0, 0, code, handlers);
            Kit.make(x, 0, 0, Kit.bytes(1, 5, 42));
            for (int p = 0; p < 23; p++) {
                x.probe(0, 1, 0, 0, 0);
            }
            Kit.due("number", x.probe(sorts[i][0], 0, sorts[i][1], 900, 9), 23);
            Kit.due("weave", x.weave(0), woven[i].length);
            Kit.dueWoven("SORT " + sorts[i][0], x, 0, woven[i]);
        }
        whatStays();
    }

    /** What was on top stays as it was behind LEAVE, CAUGHT, LEFT; AGAIN throws any KIND as it is. */
    private static void whatStays() {
        ProbeLoom x = Kit.loomOf(2, 2, Kit.bytes(3, 0, 3, 1, 12, 42, 42), new int[] {4, 5, 6, 101});
        x.probe(3, 0, 0, 0, 0);
        x.probe(5, 0, 6, 0, 0);
        x.probe(3, 0, 0, 0, 0);
        x.weave(0);
        Kit.dueBoth("LEAVE", x, 0, Kit.ab(8, 2, 99), Kit.ends(0, 4, 4), 0, 4, 2, 4);
        Kit.dueBoth("CAUGHT", x, 0, Kit.ab(8, 0, 99), Kit.ends(0, 101, 4), 1, 101, 0, 101, 2, 101);
        // AGAIN of 101 and more, which throw would make 100, and out of the FRAME.
        int[][] throwers = {{1, 1, 1, 0, 12}, {1, 0, 36, 1, 0, 38}, {1, 51, 36, 37}};
        int[] steps = {5, 6, 4};
        for (int i = 0; i < throwers.length; i++) {
            int kind = 101 + i;
            ProbeLoom y = Kit.loomOf(0, 0, Kit.join(throwers[i], Kit.bytes(42)));
            Kit.make(y, 0, 0, Kit.bytes(40, 0, 42, 42), new int[] {0, 2, 3, kind});
            y.probe(3, 0, 0, 0, 0);
            y.weave(0);
            Kit.dueBoth("AGAIN of " + kind, y, 1, Kit.ab(0, 0, 99), Kit.ends(0, kind, steps[i]), 0, -kind);
        }
    }

    private static void groups() {
        ProbeLoom x = Kit.loomOf(1, 1, Kit.bytes(1, 5, 35, 0, 3, 0, 21, 2, 1, 7, 42));
        int[][] probes = {{1, 6}, {3, 0}, {4, 2}, {6, 2}, {2, 0}, {0, 2}, {7, 0}, {4, 2}, {1, 6}, {3, 0}, {6, 10}, {2, 0},
            {7, 0}, {0, 10}, {0, 6}};
        for (int i = 0; i < probes.length; i++) {
            Kit.due("number", x.probe(probes[i][0], 0, probes[i][1], 900, 9), i);
        }
        Kit.due("weave", x.weave(0), 60);
        Kit.dueWoven("all", x, 0, 50, 4, 50, 11, 1, 5, 57, 6, 57, 12, 56, 3, 48, 5, 53, 2, 53, 7, 35, 0, 54, 2, 54, 7,
                3, 0, 48, 14, 21, 19, 49, 0, 0, 49, 8, 0, 1, 7, 56, 10, 48, 13, 51, 1, 51, 9, 42,
                49, 0, 1, 49, 8, 1, 20, -17, 52, 1, 52, 9, 58);
        int[][] moved = {{0, 4}, {2, 18}, {4, 24}, {6, 28}, {8, 36}, {10, 46}};
        for (int[] m : moved) {
            Kit.due("moved " + m[0], x.moved(0, m[0]), m[1]);
        }
        // Without PROBES of its own it is the CODE.
        ProbeLoom bare = Kit.loomOf(0, 0, Kit.bytes(1, 5, 42));
        Kit.due("bare", bare.weave(0), 3);
        Kit.dueWoven("bare", bare, 0, 1, 5, 42);
        Kit.due("no PADS", bare.method(0, 9), 0);
        Kit.due("no HANDLERS", bare.method(0, 7), 0);
    }

    private static void sidePads() {
        // 0 load 0, 2 if 0 to 0, 4 load 0, 6 if above (long) to 4, 9 push, give
        ProbeLoom x = Kit.loomOf(1, 1, Kit.bytes(3, 0, 21, -2, 3, 0, 89, 255, 254, 1, 7, 42));
        x.probe(1, 0, 6, 0, 0);
        x.probe(1, 0, 2, 0, 0);
        x.probe(1, 0, 6, 0, 0);
        x.weave(0);
        Kit.dueWoven("two PADS in the order of the CODE", x, 0, 3, 0, 21, 19, 49, 1, 0, 3, 0, 89, 0, 17, 49, 0, 0,
                49, 2, 0, 1, 7, 42, 49, 1, 1, 20, -24, 49, 0, 1, 49, 2, 1, 20, -25);
        Kit.due("PADS", x.method(0, 9), 2);
        Kit.due("moved", x.moved(0, 6), 9);
        Kit.dueBoth("by the second", x, 0, Kit.ab(1, 0, 6), Kit.ends(2, 0, 6), 1, 0, 0, 1, 2, 1, 0, 1, 2, 1);
        Kit.dueBoth("by none", x, 0, Kit.ab(-1, 0, 99), Kit.ends(0, 7, 6), 1, 0, 0, 0, 2, 0);
        Kit.dueBoth("by the first", x, 0, Kit.ab(0, 0, 4), Kit.ends(2, 0, 4), 1, 1, 1, 1);
    }

    private static void caughtPads() {
        int[][] eight = new int[8][];
        for (int k = 0; k < 8; k++) {
            eight[k] = new int[] {0, 3, k % 2 == 0 ? 3 : 4, k + 1};
        }
        ProbeLoom x = Kit.loomOf(1, 1, Kit.bytes(3, 0, 41, 42, 42), eight);
        x.probe(5, 0, 4, 0, 0);
        x.probe(0, 0, 4, 0, 0);
        x.probe(5, 0, 4, 0, 0);
        x.weave(0);
        int[] pads = new int[0];
        for (int k = 1; k < 8; k += 2) {
            int at = 7 + pads.length;
            Kit.dueHandler("with a PAD", x, true, k, 0, 3, at, k + 1);
            Kit.dueHandler("without a PAD", x, true, k - 1, 0, 3, 3, k);
            pads = Kit.join(pads, Kit.bytes(55, 0, 55, 2, 20, 4 - (at + 4)));
        }
        Kit.dueWoven("four PADS", x, 0, Kit.join(Kit.bytes(3, 0, 41, 42, 48, 1, 42), pads));
        Kit.due("PADS", x.method(0, 9), 4);
        Kit.due("HANDLERS", x.method(0, 7), 8);
        for (int kind = 1; kind <= 8; kind++) {
            int[] want = kind % 2 == 0 ? new int[] {0, kind, 2, kind, 1, 0} : new int[0];
            Kit.dueBoth("KIND " + kind, x, 0, Kit.ab(kind, 0, 99), Kit.ends(0, kind, 3), want);
        }
        Kit.dueBoth("no KIND", x, 0, Kit.ab(9, 0, 99), Kit.ends(1, 9, 2));
        otherSortsAtTargets();
    }

    /** A TARGET has a PAD by CAUGHT alone: PROBES of other SORTS there make none. */
    private static void otherSortsAtTargets() {
        ProbeLoom put = Kit.loomOf(1, 1, Kit.bytes(3, 0, 41, 35, 0, 1, 7, 42), new int[] {0, 3, 3, 0});
        int[] sorts = {0, 4, 6};
        for (int sort : sorts) {
            Kit.due("probe", put.probe(sort, 0, 3, 900, 9) >= 0);
        }
        Kit.due("weave", put.weave(0), 8 + 8);
        Kit.due("no PAD", put.method(0, 9), 0);
        Kit.due("TARGET", put.handler(0, true, 0, 2), 3);
        Kit.dueBoth("caught", put, 0, Kit.ab(9, 0, 99), Kit.ends(0, 7, 5), 0, 0, 1, 0, 1, 9);
        ProbeLoom choice = Kit.loomOf(1, 1, Kit.bytes(3, 0, 41, 22, 2, 1, 7, 42), new int[] {0, 3, 3, 0});
        choice.probe(1, 0, 3, 0, 0);
        Kit.due("weave", choice.weave(0), 8 + 3 + 5);
        Kit.due("one PAD, of SIDE", choice.method(0, 9), 1);
        Kit.due("TARGET", choice.handler(0, true, 0, 2), 3);
        Kit.dueBoth("caught", choice, 0, Kit.ab(9, 0, 99), Kit.ends(0, 7, 5), 0, 1);
    }

    private static void leftPad() {
        // No other PAD: from the first GROUP to this one.
        ProbeLoom bare = Kit.loomOf(0, 0, Kit.bytes(1, 5, 42));
        bare.probe(3, 0, 0, 0, 0);
        bare.probe(2, 0, 0, 0, 0);
        bare.weave(0);
        Kit.dueWoven("alone", bare, 0, 50, 1, 1, 5, 51, 0, 42, 52, 0, 58);
        Kit.due("one HANDLER", bare.method(0, 7), 1);
        Kit.dueHandler("behind ENTER, to this one", bare, true, 0, 2, 7, 7, 0);
        Kit.due("it is a PAD", bare.method(0, 9), 1);
        // Eight HANDLERS, SIDES and CAUGHT: the ninth is the last, to the first PAD.
        int[][] eight = new int[8][];
        for (int k = 0; k < 8; k++) {
            eight[k] = new int[] {0, 8, 8, 20 + k};
        }
        ProbeLoom x = Kit.loomOf(1, 1, Kit.bytes(3, 0, 21, 3, 0, 3, 0, 41, 42), eight);
        x.probe(1, 0, 2, 0, 0);
        x.probe(5, 0, 8, 0, 0);
        x.probe(3, 0, 0, 0, 0);
        x.probe(3, 0, 0, 0, 0);
        // 9, SIDE 3, LEAVE 4, PAD of SIDE 5, PADS of CAUGHT 4 each, LEFT 4, AGAIN.
        Kit.due("weave", x.weave(0), 9 + 3 + 4 + 5 + 32 + 5);
        Kit.due("nine HANDLERS", x.method(0, 7), 9);
        Kit.dueHandler("the last one", x, true, 8, 0, 16, 53, 0);
        Kit.dueHandler("the first one", x, true, 0, 0, 11, 21, 20);
        Kit.due("ten PADS", x.method(0, 9), 10);
        Kit.dueHandler("no tenth", x, true, 9, -1, -1, -1, -1);
        // HANDLERS of its own go ahead of it, also of KIND 0.
        Kit.dueBoth("its own", x, 0, Kit.ab(27, 0, 99), Kit.ends(0, 27, 6), 0, 0, 1, 27, 2, 27, 3, 27);
        Kit.dueBoth("the last one", x, 0, Kit.ab(28, 0, 99), Kit.ends(1, 28, 5), 0, 0, 2, -28, 3, -28);
        ProbeLoom no = Kit.loomOf(0, 0, Kit.bytes(1, 5, 42));
        Kit.make(no, 0, 0, Kit.bytes(1, 5, 42));
        no.probe(3, 1, 0, 0, 0);
        no.weave(0);
        Kit.due("a LEAVE of another METHOD", no.method(0, 6), 3);
        Kit.due("no HANDLER", no.method(0, 7), 0);
    }

    private static void toGroups() {
        // 0 jump to 3, 2 nop, 3 load, 5 throw, 6 give: TARGET 6; PASS at 3 and 6.
        ProbeLoom x = Kit.loomOf(1, 1, Kit.bytes(20, 3, 0, 3, 0, 41, 42), new int[] {3, 6, 6, 0});
        x.probe(0, 0, 3, 0, 0);
        x.probe(0, 0, 6, 0, 0);
        x.weave(0);
        Kit.dueWoven("to the PASS", x, 0, 20, 3, 0, 48, 0, 3, 0, 41, 48, 1, 42);
        Kit.due("TARGET", x.handler(0, true, 0, 2), 8);
        Kit.dueBoth("both pass", x, 0, Kit.ab(9, 0, 99), Kit.ends(0, 9, 4), 0, 0, 1, 0);
        // To place 0: behind each ENTER, ahead of each PASS.
        ProbeLoom y = Kit.loomOf(0, 0, Kit.bytes(0, 20, -1));
        y.probe(2, 0, 0, 0, 0);
        y.probe(0, 0, 0, 0, 0);
        y.weave(0);
        Kit.dueWoven("to place 0", y, 0, 50, 0, 48, 1, 0, 20, -3);
    }

    private static void ranges() {
        // 0 load, 2 put, 4 load, 6 throw, 7 give: PROBES ahead of and behind 2 and 6.
        int[] code = {3, 0, 35, 0, 3, 0, 41, 42};
        int[][] probes = {{0, 2}, {4, 2}, {0, 6}, {2, 0}, {0, 7}};
        int[] starts = {2, -1, 4, -1, 12, -1, 14, 17, 20};
        int[][] handlers = {{0, 2, 7, 1}, {2, 4, 7, 2}, {4, 6, 7, 3}, {6, 7, 7, 4}, {7, 8, 7, 5}, {0, 8, 7, 6},
            {2, 8, 7, 7}, {0, 7, 7, 8}};
        ProbeLoom x = Kit.loomOf(1, 1, code, handlers);
        for (int[] p : probes) {
            Kit.due("probe", x.probe(p[0], 0, p[1], 0, 0) >= 0);
        }
        Kit.due("weave", x.weave(0), 20);
        for (int k = 0; k < 8; k++) {
            Kit.dueHandler("range " + k, x, true, k, starts[handlers[k][0]], starts[handlers[k][1]], 17, k + 1);
        }
        Kit.dueBoth("KIND 4", x, 0, Kit.ab(4, 0, 99), Kit.ends(0, 4, 5), 3, 4, 0, 0, 1, 0, 1, 4, 2, 0, 4, 0);
        Kit.dueBoth("KIND 3 is not there", x, 0, Kit.ab(3, 0, 99), Kit.ends(1, 3, 4), 3, 3, 0, 0, 1, 0, 1, 3, 2, 0);
        // TO LENGTH is the end of the last GROUP: with what is behind its INSTRUCTION, without PADS.
        ProbeLoom y = Kit.loomOf(1, 1, Kit.bytes(20, 3, 42, 3, 0, 22, -2, 1, 5, 20, -7), new int[] {3, 11, 2, 0});
        y.probe(1, 0, 5, 0, 0);
        y.probe(7, 0, 7, 6, 0);
        Kit.due("weave", y.weave(0), 21);
        Kit.dueHandler("TO LENGTH", y, true, 0, 3, 16, 2, 0);
        ProbeLoom most = Kit.loomOf(0, 0, Kit.join(Kit.times(396, 0), Kit.bytes(1, 5, 42, 42)),
                new int[] {399, 400, 399, 0});
        most.probe(0, 0, 0, 0, 0);
        most.probe(0, 0, 399, 0, 0);
        most.probe(3, 0, 0, 0, 0);
        Kit.due("weave", most.weave(0), 400 + 4 + 4 + 3);
        Kit.dueHandler("LENGTH 400", most, true, 0, 403, 408, 403, 0);
        Kit.dueHandler("LENGTH 400, of LEAVE", most, true, 1, 0, 408, 408, 0);
    }

    private static void tables() {
        // 16 numbers: to the table itself (back), to its own GROUP, and far on.
        int[] numbers = new int[0];
        for (int k = 0; k <= 16; k++) {
            numbers = Kit.join(numbers, k % 2 == 0 ? Kit.bytes(0, 36) : Kit.bytes(255, 254));
        }
        ProbeLoom x = Kit.loomOf(1, 1, Kit.join(Kit.bytes(3, 0, 33, 16), numbers, Kit.bytes(1, 7, 42)));
        x.probe(0, 0, 0, 0, 0);
        x.probe(0, 0, 2, 0, 0);
        x.probe(0, 0, 38, 0, 0);
        x.weave(0);
        int[] anew = new int[0];
        for (int k = 0; k <= 16; k++) {
            anew = Kit.join(anew, k % 2 == 0 ? Kit.bytes(0, 36) : Kit.bytes(255, 250));
        }
        Kit.dueWoven("anew", x, 0, Kit.join(Kit.bytes(48, 0, 3, 0, 48, 1, 33, 16), anew, Kit.bytes(48, 2, 1, 7, 42)));
        Kit.dueBoth("the last of the 16", x, 0, Kit.ab(15, 0, 99), Kit.ends(0, 7, 4), 0, 0, 1, 0, 2, 0);
        Kit.dueBoth("one of them back", x, 0, Kit.ab(0, 0, 3), Kit.ends(2, 0, 3), 0, 0, 1, 0, 0, 0, 1, 0);
        Kit.dueBoth("the first", x, 0, Kit.ab(16, 0, 99), Kit.ends(0, 7, 4), 0, 0, 1, 0, 2, 0);
        // Two LEAVE at 60 gives: over more than 255 bytes, on ..
        int[] gives = Kit.times(60, 1, 5, 42);
        ProbeLoom on = Kit.loomOf(1, 1, Kit.join(Kit.bytes(3, 0, 33, 1, 0, 186, 255, 254), gives, Kit.bytes(1, 7, 42)));
        on.probe(3, 0, 0, 0, 0);
        on.probe(3, 0, 0, 0, 0);
        on.weave(0);
        Kit.due("426 on, high", on.octet(0, true, 4), 1);
        Kit.due("426 on, low", on.octet(0, true, 5), 170);
        Kit.dueBoth("426 on", on, 0, Kit.ab(5, 0, 99), Kit.ends(0, 7, 4), 0, 7, 1, 7);
        // .. and back.
        ProbeLoom back = Kit.loomOf(1, 1, Kit.join(Kit.bytes(84, 0, 183), gives,
                Kit.bytes(3, 0, 33, 1, 255, 74, 255, 74)));
        back.probe(3, 0, 0, 0, 0);
        back.probe(3, 0, 0, 0, 0);
        back.weave(0);
        Kit.due("422 back, high", back.octet(0, true, 427), 254);
        Kit.due("422 back, low", back.octet(0, true, 428), 90);
        Kit.dueBoth("422 back", back, 0, Kit.ab(5, 0, 99), Kit.ends(0, 5, 5), 0, 5, 1, 5);
    }

    private static void asTold() {
        // A long one that would reach short stays long, in the CODE; a PAD's is short.
        for (int op = 84; op <= 96; op++) {
            int[] load = op == 84 ? Kit.bytes() : op < 91 ? Kit.bytes(3, 0) : Kit.bytes(3, 0, 3, 0);
            ProbeLoom x = Kit.loomOf(1, 1, Kit.join(load, Kit.bytes(op, 0, 3, 1, 7, 42)));
            x.weave(0);
            Kit.dueWoven("long " + op, x, 0, Kit.join(load, Kit.bytes(op, 0, 3, 1, 7, 42)));
            Kit.due("none became long", x.method(0, 8), 0);
            if (op > 84) {
                x.probe(1, 0, load.length, 0, 0);
                x.weave(0);
                Kit.dueWoven("with SIDE " + op, x, 0, Kit.join(load, Kit.bytes(op, 0, 9, 49, 0, 0, 1, 7, 42,
                        49, 0, 1, 20, -6)));
            }
        }
        for (int op = 20; op <= 32; op++) {
            int[] load = op == 20 ? Kit.bytes() : op < 27 ? Kit.bytes(3, 0) : Kit.bytes(3, 0, 3, 0);
            ProbeLoom x = Kit.loomOf(1, 1, Kit.join(load, Kit.bytes(op, 2, 1, 7, 42)));
            x.weave(0);
            Kit.dueWoven("short " + op, x, 0, Kit.join(load, Kit.bytes(op, 2, 1, 7, 42)));
        }
        // Woven anew with fewer to pass, a jump is short again.
        ProbeLoom x = Kit.loomOf(0, 0, Kit.join(Kit.bytes(20, 127), Kit.times(125, 0), Kit.bytes(1, 7, 42)));
        x.probe(0, 0, 5, 0, 0);
        x.weave(0);
        Kit.due("one became long", x.method(0, 8), 1);
        x.clear();
        x.weave(0);
        Kit.due("short again", x.octet(0, true, 0), 20);
        Kit.due("none became long", x.method(0, 8), 0);
        padsAsTold();
    }

    /** Jumps of one METHOD that became long leave those of another as they were told, near and far on. */
    private static void padsAsTold() {
        for (int ahead = 0; ahead <= 240; ahead += 240) {
            ProbeLoom x = new ProbeLoom();
            for (int nops = 140; nops >= 0; nops -= 140) {
                // nops, 0 load, 2 if 0 to 7, 4 jump to 7, 6 mark of what is thrown, 7 nops, push, give
                Kit.make(x, 1, 1, Kit.join(Kit.times(ahead, 0), Kit.bytes(3, 0, 21, 5, 20, 3, 43), Kit.times(nops, 0),
                        Kit.bytes(1, 7, 42)), new int[] {ahead, ahead + 2, ahead + 6, 0});
            }
            Kit.due("two METHODS", x.count(0), 2);
            for (int m = 0; m < 2; m++) {
                x.probe(1, m, ahead + 2, 0, 0);
                x.probe(5, m, ahead + 6, 0, 0);
            }
            // 10 and nops, SIDE 3, PADS 5 and 4; in METHOD 0 the choice and both PADS' jumps are long.
            Kit.due("long ones", x.weave(0), ahead + 150 + 3 + 5 + 4 + 3);
            Kit.due("short ones", x.weave(1), ahead + 10 + 3 + 5 + 4);
            Kit.due("PAD of SIDE", x.octet(1, true, ahead + 16), 20);
            Kit.due("PAD of CAUGHT", x.octet(1, true, ahead + 20), 20);
            Kit.due("none became long", x.method(1, 8), 0);
        }
    }

    /** A jump on over so many nops, with so many PASS at the first of them. */
    private static ProbeLoom over(int op, int nops, int passes) {
        int[] load = op == 20 ? Kit.bytes() : op < 27 ? Kit.bytes(3, 0) : Kit.bytes(3, 0, 3, 0);
        ProbeLoom x = Kit.loomOf(1, 1, Kit.join(load, Kit.bytes(op, nops + 2), Kit.times(nops, 0),
                Kit.bytes(1, 7, 42)));
        for (int p = 0; p < passes; p++) {
            x.probe(0, 0, load.length + 2, 0, 0);
        }
        x.weave(0);
        return x;
    }

    private static void reach() {
        for (int op = 20; op <= 32; op++) {
            int at = op == 20 ? 0 : op < 27 ? 2 : 4;
            ProbeLoom most = over(op, 123, 1);
            Kit.due("127 on: OP", most.octet(0, true, at), op);
            Kit.due("127 on: by", most.octet(0, true, at + 1), 127);
            Kit.due("127 on: none became long", most.method(0, 8), 0);
            ProbeLoom more = over(op, 124, 1);
            Kit.due("128 on: OP", more.octet(0, true, at), op + 64);
            Kit.due("128 on: by", more.octet(0, true, at + 1) * 256 + more.octet(0, true, at + 2), 129);
            Kit.due("128 on: one became long", more.method(0, 8), 1);
            Kit.due("128 on: what is behind moved", more.moved(0, at + 2), at + 5);
            dueBack(op, 124, op, -128);
            dueBack(op, 125, op + 64, -129);
        }
        probesAtTheJump();
        growInTurn();
        growOneByOne();
        padsReach();
        longerPadsReach();
    }

    /** How far it leads is told from the jump itself, behind its PROBES, to the GROUP of where it leads. */
    private static void probesAtTheJump() {
        ProbeLoom x = Kit.loomOf(0, 0, Kit.join(Kit.bytes(20, 127), Kit.times(125, 0), Kit.bytes(1, 7, 42)));
        for (int p = 0; p < 10; p++) {
            x.probe(0, 0, p % 2 == 0 ? 0 : 127, 0, 0);
        }
        x.weave(0);
        Kit.due("short", x.octet(0, true, 10), 20);
        Kit.due("by 127", x.octet(0, true, 11), 127);
        // Back it leads to the GROUP, so that PROBES there and at the jump are in between.
        for (int passes = 1; passes <= 4; passes++) {
            ProbeLoom y = Kit.loomOf(0, 0, Kit.join(Kit.times(122, 0), Kit.bytes(20, -122)));
            for (int p = 0; p < passes; p++) {
                y.probe(0, 0, p % 2 == 0 ? 122 : 0, 0, 0);
            }
            y.weave(0);
            Kit.due(passes + " in between", y.octet(0, true, 122 + 2 * passes), passes <= 3 ? 20 : 84);
        }
    }

    /** Of 41 jumps each reaches but for those behind it: each becomes long in a round of its own. */
    private static void growOneByOne() {
        int[] code = new int[0];
        for (int i = 0; i <= 40; i++) {
            code = Kit.join(code, Kit.bytes(20, 86 + i));
        }
        code = Kit.join(code, Kit.times(206 - code.length, 0), Kit.bytes(1, 7, 42));
        ProbeLoom x = Kit.loomOf(0, 0, code);
        Kit.due("as told none grows", x.weave(0), 209);
        x.probe(0, 0, 84, 0, 0);
        Kit.due("all grow", x.weave(0), 209 + 2 + 41);
        Kit.due("41 became long", x.method(0, 8), 41);
        for (int i = 0; i <= 40; i++) {
            int at = x.moved(0, 2 * i);
            Kit.due("jump " + i, x.octet(0, true, at), 84);
            Kit.due("jump " + i + " leads", at + x.octet(0, true, at + 1) * 256 + x.octet(0, true, at + 2),
                    x.moved(0, 86 + 3 * i));
        }
        // With one byte less the last but one reaches, and so do all ahead of it.
        code[2 * 39 + 1]--;
        ProbeLoom y = Kit.loomOf(0, 0, code);
        y.probe(0, 0, 84, 0, 0);
        Kit.due("the last one grows", y.weave(0), 209 + 2 + 1);
        Kit.due("one became long", y.method(0, 8), 1);
    }

    /** Three SIDES, three CAUGHT: the jump of the PAD stands behind them all, and leads from there. */
    private static void longerPadsReach() {
        for (int nops = 115; nops <= 118; nops++) {
            // Long choice at 2, SIDES 5 .. 13, GROUP 14; PAD at 17 and nops, its jump 9 behind it.
            ProbeLoom x = Kit.loomOf(1, 1, Kit.join(Kit.bytes(3, 0, 85, 0, 3), Kit.times(nops, 0), Kit.bytes(1, 7, 42)));
            // TARGET 3; PAD at 9 and nops, its jump 6 behind it.
            ProbeLoom y = Kit.loomOf(1, 1, Kit.join(Kit.bytes(3, 0, 41, 7), Kit.times(nops + 2, 0), Kit.bytes(1, 7, 42)),
                    new int[] {0, 3, 3, 0});
            for (int p = 0; p < 3; p++) {
                x.probe(1, 0, 2, 0, 0);
                y.probe(5, 0, 3, 0, 0);
            }
            // Both lead back by 12 and nops.
            boolean reaches = nops <= 116;
            Kit.due("SIDES with " + nops, x.weave(0), 26 + nops + (reaches ? 2 : 3));
            Kit.due("its jump", x.octet(0, true, 26 + nops), reaches ? 20 : 84);
            Kit.dueBoth("jumped", x, 0, Kit.ab(0, 0, 3000), Kit.ends(0, 7, nops + 4), 0, 1, 1, 1, 2, 1);
            Kit.due("CAUGHT with " + nops, y.weave(0), 15 + nops + (reaches ? 2 : 3));
            Kit.due("its jump", y.octet(0, true, 15 + nops), reaches ? 20 : 84);
            Kit.dueBoth("caught", y, 0, Kit.ab(9, 0, 3000), Kit.ends(0, 7, nops + 7), 0, 9, 1, 9, 2, 9);
        }
    }

    /** nops, the first of them with a PASS, then a jump back to the first; by so much it leads then. */
    private static void dueBack(int op, int nops, int wantOp, int by) {
        int[] load = op == 20 ? Kit.bytes(0, 0) : op < 27 ? Kit.bytes(3, 0) : Kit.bytes(3, 0, 3, 0);
        int less = op < 27 ? 0 : 2;
        int many = nops - less;
        ProbeLoom x = Kit.loomOf(1, 1, Kit.join(Kit.times(many, 0), load, Kit.bytes(op, -(many + load.length)),
                Kit.bytes(1, 7, 42)));
        x.probe(0, 0, 0, 0, 0);
        x.weave(0);
        int at = x.moved(0, many + load.length);
        Kit.due("back by " + by + ": OP", x.octet(0, true, at), wantOp);
        int last = wantOp == op ? at + 1 : at + 2;
        Kit.due("back by " + by, x.octet(0, true, last), by & 255);
        Kit.due("back by " + by + ": high", wantOp == op || x.octet(0, true, at + 1) == 255);
        Kit.due("back by " + by + ": became long", x.method(0, 8), wantOp == op ? 0 : 1);
    }

    private static void growInTurn() {
        // Jump k leads over the next two by 127 in all: the last grows by the PASS, then each ahead of it.
        int[] code = new int[0];
        for (int k = 0; k < 5; k++) {
            code = Kit.join(code, Kit.bytes(20, k < 4 ? 127 : 126), Kit.times(60, 0));
        }
        code = Kit.join(code, Kit.times(64, 0), Kit.bytes(1, 7, 42));
        int[] to = {127, 189, 251, 313, 374};
        ProbeLoom x = Kit.loomOf(0, 0, code);
        Kit.due("as told none grows", x.weave(0), 377);
        Kit.due("none grew", x.method(0, 8), 0);
        x.probe(0, 0, 312, 0, 0);
        x.weave(0);
        // PASS at 312 is within the jumps at 186 (to 313) and 248 (to 374): these grow, and so on back.
        Kit.due("all grew", x.method(0, 8), 5);
        for (int k = 0; k < 5; k++) {
            int at = x.moved(0, 62 * k);
            Kit.due("jump " + k + ": OP", x.octet(0, true, at), 84);
            int by = x.octet(0, true, at + 1) * 256 + x.octet(0, true, at + 2);
            Kit.due("jump " + k + " leads to its GROUP", at + by, x.moved(0, to[k]));
        }
        Kit.due("bytes", x.method(0, 6), 377 + 2 + 5);
    }

    private static void padsReach() {
        // The choice leads to its PAD 8 + nops on, the PAD's jump back by 6 + nops: each reaches or not.
        for (int nops = 118; nops <= 124; nops++) {
            ProbeLoom x = Kit.loomOf(1, 1, Kit.join(Kit.bytes(3, 0, 21, 2), Kit.times(nops, 0), Kit.bytes(1, 7, 42)));
            x.probe(1, 0, 2, 0, 0);
            int longer = nops > 119 ? 1 : 0;
            int jump = 13 + nops + longer;
            Kit.due("weave with " + nops, x.weave(0), jump + (nops > 122 ? 3 : 2));
            Kit.due("the choice, with " + nops, x.octet(0, true, 2), longer == 0 ? 21 : 85);
            Kit.due("it leads to its PAD", x.octet(0, true, 3 + longer), 8 + nops + longer);
            Kit.due("jumps that became long", x.method(0, 8), longer);
            Kit.due("the PAD's jump, with " + nops, x.octet(0, true, jump), nops > 122 ? 84 : 20);
            Kit.due("it leads back", x.octet(0, true, jump + (nops > 122 ? 2 : 1)), -6 - nops & 255);
            Kit.dueBoth("jumped", x, 0, Kit.ab(0, 0, 3000), Kit.ends(0, 7, nops + 4), 0, 1);
        }
        // A long choice: the PAD's jump alone may not reach.
        for (int nops = 121; nops <= 124; nops++) {
            ProbeLoom x = Kit.loomOf(1, 1, Kit.join(Kit.bytes(3, 0, 85, 0, 3), Kit.times(nops, 0), Kit.bytes(1, 7, 42)));
            x.probe(1, 0, 2, 0, 0);
            Kit.due("weave with " + nops, x.weave(0), 14 + nops + (nops > 122 ? 3 : 2));
            Kit.due("the PAD's jump, with " + nops, x.octet(0, true, 14 + nops), nops > 122 ? 84 : 20);
            Kit.due("none of the CODE became long", x.method(0, 8), 0);
        }
        for (int nops = 121; nops <= 124; nops++) {
            ProbeLoom x = Kit.loomOf(1, 1, Kit.join(Kit.bytes(3, 0, 41, 7), Kit.times(nops, 0), Kit.bytes(1, 7, 42)),
                    new int[] {0, 3, 3, 0});
            x.probe(5, 0, 3, 0, 0);
            Kit.due("weave with " + nops, x.weave(0), 9 + nops + (nops > 122 ? 3 : 2));
            Kit.due("PAD of CAUGHT, with " + nops, x.octet(0, true, 9 + nops), nops > 122 ? 84 : 20);
            Kit.due("none of the CODE became long", x.method(0, 8), 0);
            Kit.dueBoth("caught", x, 0, Kit.ab(9, 0, 3000), Kit.ends(0, 7, nops + 5), 0, 9);
        }
    }

    private static void later() {
        ProbeLoom x = Kit.loomOf(0, 0, Kit.bytes(1, 5, 42));
        Kit.make(x, 0, 0, Kit.bytes(40, 0, 42));
        Kit.due("weave", x.weave(0), 3);
        x.probe(7, 0, 0, 9, 0);
        x.probe(2, 0, 0, 0, 0);
        x.probe(3, 0, 0, 0, 0);
        x.probe(6, 0, 2, 1, 9);
        x.probe(0, 1, 0, 0, 0);
        Kit.dueWoven("not yet", x, 0, 1, 5, 42);
        Kit.dueBoth("not yet", x, 0, Kit.ab(0, 0, 99), Kit.ends(0, 5, 2));
        Kit.due("another METHOD", x.weave(1), 5);
        Kit.dueWoven("still not", x, 0, 1, 5, 42);
        Kit.dueBoth("METHOD 1 alone", x, 1, Kit.ab(0, 0, 99), Kit.ends(0, 5, 4), 4, 0);
        Kit.due("anew", x.weave(0), 14);
        Kit.dueBoth("now", x, 1, Kit.ab(0, 0, 99), Kit.ends(1, 9, 2), 4, 0, 1, 0, 0, 5, 2, -9);
        x.probe(0, 0, 2, 0, 0);
        Kit.dueBoth("not the sixth", x, 1, Kit.ab(0, 0, 99), Kit.ends(1, 9, 2), 4, 0, 1, 0, 0, 5, 2, -9);
        for (int sort = 0; sort < 8; sort++) {
            laterOf(sort);
        }
    }

    /** Each INSTRUCTION has a PASS; one more PROBE of the SORT comes too late, at one of them. */
    private static void laterOf(int sort) {
        // 0 load, 2 put, 4 load, 6 jump if 0, 8 load, 10 throw, 11 give
        int[] code = {3, 0, 35, 0, 3, 0, 21, 2, 3, 0, 41, 42};
        int[] where = {2, 6, 0, 0, 2, 11, 11, 0};
        int[] early = {0, 2, 4, 6, 8, 10, 11};
        ProbeLoom x = Kit.loomOf(1, 1, sort == 7 ? Kit.bytes(34, 0, 35, 0, 3, 0, 21, 2, 3, 0, 41, 42) : code,
                new int[] {8, 11, 11, 0});
        int[] want = new int[14];
        for (int p = 0; p < early.length; p++) {
            x.probe(0, 0, early[p], 0, 0);
            want[2 * p] = p;
        }
        x.weave(0);
        Kit.due("SORT " + sort, x.probe(sort, 0, where[sort], 1, 1), 7);
        Kit.dueBoth("SORT " + sort + " came too late", x, 0, Kit.ab(9, 0, 99), Kit.ends(0, 9, 7), want);
        x.weave(0);
        x.run(1, 0, 9, 0, 99);
        x.run(2, 0, 9, 0, 99);
        Kit.due("woven anew", x.records(1, 7) > 0 || sort == 6);
        Kit.due("woven anew, watched", x.records(2, 7), x.records(1, 7));
        Kit.due("a FAULT, woven anew", x.told(2, 0), sort == 6 ? 1 : 0);
    }

    /** 100 times push, give, then nops: a LEAVE adds 2 bytes to each give, and LEFT of 2. */
    private static ProbeLoom gives(int nops, int leaves) {
        ProbeLoom x = Kit.loomOf(0, 0, Kit.join(Kit.times(100, 1, 5, 42), Kit.times(nops, 0)));
        for (int p = 0; p < leaves; p++) {
            x.probe(3, 0, 0, 0, 0);
        }
        return x;
    }

    private static void most1000() {
        // 300 + nops + 3 LEAVE: 600, LEFT 6, AGAIN 1.
        Kit.due("999", gives(92, 3).weave(0), 999);
        ProbeLoom most = gives(93, 3);
        Kit.due("1000", most.weave(0), 1000);
        Kit.due("the last byte", most.octet(0, true, 999), 58);
        Kit.due("none behind", most.octet(0, true, 1000), -1);
        Kit.due("the PAD", most.handler(0, true, 0, 2), 993);
        Kit.dueBoth("it runs", most, 0, Kit.ab(0, 0, 9), Kit.ends(0, 5, 2), 0, 5, 1, 5, 2, 5);
        Kit.due("1001", gives(94, 3).weave(0), -3);
        Kit.due("far more", gives(94, 24).weave(0), -3);
        // It is the laid code that counts, with jumps that became long: 1000, or 1001 by one byte.
        for (int nops = 90; nops <= 91; nops++) {
            ProbeLoom x = Kit.loomOf(0, 0, Kit.join(Kit.bytes(20, 62), Kit.times(100, 1, 5, 42), Kit.times(nops, 0)));
            for (int p = 0; p < 3; p++) {
                x.probe(3, 0, 0, 0, 0);
            }
            Kit.due("a long jump and " + nops + " nops", x.weave(0), nops == 90 ? 1000 : -3);
        }
        // What is thrown leaves by the very last bytes.
        ProbeLoom x = Kit.loomOf(1, 1, Kit.join(Kit.bytes(3, 0, 41), Kit.times(99, 1, 5, 42), Kit.times(99, 0)));
        for (int p = 0; p < 3; p++) {
            x.probe(3, 0, 0, 0, 0);
        }
        Kit.due("1000", x.weave(0), 1000);
        Kit.due("the last INSTRUCTION", x.moved(0, 398), 992);
        Kit.dueBoth("by the last bytes", x, 0, Kit.ab(9, 0, 9), Kit.ends(1, 9, 2), 0, -9, 1, -9, 2, -9);
    }

    private static void manners() {
        // 1 calls 0; each with a REPLACE; woven is the one, the other, both, none.
        for (int which = 0; which < 4; which++) {
            ProbeLoom x = Kit.loomOf(0, 0, Kit.bytes(1, 5, 42));
            Kit.make(x, 0, 0, Kit.bytes(1, 50, 40, 0, 9, 42));
            x.probe(7, 0, 0, 6, 0);
            x.probe(7, 1, 0, 60, 0);
            if ((which & 1) != 0) {
                x.weave(0);
            }
            if ((which & 2) != 0) {
                x.weave(1);
            }
            int answer = ((which & 1) != 0 ? 6 : 5) + ((which & 2) != 0 ? 60 : 50);
            int[][] want = {{}, {0, 5}, {1, 50}, {1, 50, 0, 5}};
            Kit.dueBoth("woven: " + which, x, 1, Kit.ab(0, 0, 99), Kit.ends(0, answer, 6), want[which]);
            Kit.due("plain", x.run(0, 1, 0, 0, 99), 0);
            Kit.due("plain answer", x.told(0, 1), 55);
            Kit.due("plain RECORDS", x.told(0, 4), 0);
            x.unweave(0);
            x.unweave(1);
            Kit.dueBoth("unwoven", x, 1, Kit.ab(0, 0, 99), Kit.ends(0, 55, 6));
        }
        Kit.due("no MANNER 3", Kit.loomOf(0, 0, Kit.bytes(1, 5, 42)).run(3, 0, 0, 0, 9), -2);
        plainWithEverySort();
        operandsMoved();
    }

    /** Each kind of operand is read where its INSTRUCTION stands in the WOVEN code. */
    private static void operandsMoved() {
        int[][] codes = {{1, 7}, {2, 1, 2, 3, 4}, {3, 0}, {1, 7, 4, 1, 3, 1}, {5, 0, 250, 3, 0}, {20, 3, 0, 1, 7},
            {84, 0, 4, 0, 1, 7}, {3, 0, 21, 3, 0, 1, 7}, {3, 0, 86, 0, 4, 0, 1, 7}, {3, 0, 33, 1, 0, 7, 0, 6, 0, 1, 7},
            {1, 7, 35, 5, 34, 5}, {1, 2, 40, 0}};
        for (int[] code : codes) {
            ProbeLoom x = Kit.loomOf(1, 1, Kit.bytes(3, 0, 6, 9, 42));
            Kit.make(x, 1, 2, Kit.join(code, Kit.bytes(42)));
            for (int p = 0; p < 5; p++) {
                x.probe(2, 1, 0, 0, 0);
            }
            x.weave(1);
            for (int a = 0; a <= 1; a++) {
                int end = x.run(0, 1, a, 0, 99);
                int answer = x.told(0, 1);
                int steps = x.told(0, 2);
                Kit.dueBoth("OP " + code[0] + ", " + code[2 % code.length], x, 1, Kit.ab(a, 0, 99),
                        Kit.ends(end, answer, steps), 0, a, 1, a, 2, a, 3, a, 4, a);
            }
        }
    }

    /** Plain there are no RECORDS of any SORT, however it ends; unwoven there are none in any MANNER. */
    private static void plainWithEverySort() {
        // 0 load, 2 put, 4 load, 6 jump if 0 to 11, 8 load, 10 throw, 11 nop, 12 push, 14 give, 15 give
        ProbeLoom x = Kit.loomOf(1, 1, Kit.bytes(3, 0, 35, 0, 3, 0, 21, 5, 3, 0, 41, 0, 1, 6, 42, 42),
                new int[] {8, 11, 15, 9});
        int[][] probes = {{0, 0}, {1, 6}, {2, 0}, {3, 0}, {4, 2}, {5, 15}, {6, 12}, {7, 12}};
        for (int[] p : probes) {
            Kit.due("probe", x.probe(p[0], 0, p[1], 1, 50) >= 0);
        }
        x.weave(0);
        int[][] cases = {{0, 0, 6, 7}, {9, 0, 9, 7}, {8, 1, 8, 6}};
        for (int[] c : cases) {
            Kit.due("run", x.run(0, 0, c[0], 0, 99), c[1]);
            Kit.due("answer", x.told(0, 1), c[2]);
            Kit.due("STEPS", x.told(0, 2), c[3]);
            Kit.due("RECORDS", x.told(0, 4), 0);
        }
        x.unweave(0);
        for (int[] c : cases) {
            Kit.dueBoth("unwoven", x, 0, Kit.ab(c[0], 0, 99), Kit.ends(c[1], c[2], c[3]));
        }
        // Woven anew without LEAVE there is no HANDLER of it any more.
        x.clear();
        x.weave(0);
        Kit.dueBoth("cleared, woven", x, 0, Kit.ab(8, 0, 99), Kit.ends(1, 8, 6));
    }

    private static void stepsOfTheCode() {
        // PADS of SIDE and CAUGHT with their jumps, LEFT and AGAIN: none is a STEP.
        ProbeLoom x = Kit.loomOf(1, 1, Kit.bytes(3, 0, 21, 3, 0, 3, 0, 41, 43, 1, 7, 42), new int[] {5, 8, 8, 9});
        x.probe(1, 0, 2, 0, 0);
        x.probe(5, 0, 8, 0, 0);
        x.probe(3, 0, 0, 0, 0);
        x.weave(0);
        int[] values = {0, 9, 8};
        int[] steps = {4, 8, 5};
        for (int i = 0; i < 3; i++) {
            int plain = x.run(0, 0, values[i], 0, 99);
            Kit.due("plain STEPS", x.told(0, 2), steps[i]);
            for (int manner = 1; manner <= 2; manner++) {
                Kit.due("run", x.run(manner, 0, values[i], 0, 99), plain);
                Kit.due("STEPS", x.told(manner, 2), steps[i]);
                Kit.due("just enough", x.run(manner, 0, values[i], 0, steps[i]), plain);
                Kit.due("one fewer", x.run(manner, 0, values[i], 0, steps[i] - 1), 2);
            }
        }
    }

    private static void agree() {
        // All that is told of both, at each LIMIT up to the end: loops, calls, ROWS, FIELDS, what is thrown.
        ProbeLoom x = Kit.loomOf(2, 3, Kit.bytes(1, 3, 36, 4, 2, 3, 2, 3, 0, 3, 1, 39, 3, 2, 3, 0, 38, 6, 35, 4, 43,
                3, 1, 3, 0, 12, 42, 42), new int[] {11, 12, 27, 0});
        Kit.make(x, 1, 1, Kit.bytes(3, 0, 1, 9, 40, 0, 43, 5, 0, 255, 3, 0, 24, -12, 3, 0, 42, 6, 43, 42),
                new int[] {4, 6, 17, 101});
        int[][] probes = {{2, 0, 0}, {3, 0, 0}, {4, 0, 11}, {4, 0, 18}, {5, 0, 27}, {7, 0, 16}, {7, 0, 25}, {0, 0, 26},
            {2, 1, 0}, {3, 1, 0}, {1, 1, 12}, {5, 1, 17}, {6, 1, 6}, {7, 1, 4}};
        for (int[] p : probes) {
            Kit.due("probe", x.probe(p[0], p[1], p[2], 4, 77) >= 0);
        }
        x.weave(0);
        x.weave(1);
        for (int limit = 1; limit <= 12; limit++) {
            dueAgreed(x, 3, 7 * limit);
        }
        dueAgreed(x, 3, 3000);
    }

    private static void dueAgreed(ProbeLoom x, int a, int limit) {
        Kit.due("the same end at " + limit, x.run(1, 1, a, 0, limit), x.run(2, 1, a, 0, limit));
        for (int what = 0; what <= 8; what++) {
            Kit.due("told " + what + " at " + limit, x.told(1, what), x.told(2, what));
        }
        for (int f = 3; f <= 5; f++) {
            Kit.due("FIELD " + f, x.field(1, f), x.field(2, f));
        }
        for (int i = 0; i < 3; i++) {
            Kit.due("MARK " + i, x.mark(1, i), x.mark(2, i));
        }
        Kit.due("RECORDS at " + limit, x.differ(), -1);
    }
}
