/** Edges of section 2: BILLS, FINES, COVERS, RAIN, WORTH. */
final class BillEdges {
    private BillEdges() {
    }

    static void all() {
        Edge.of("======== 2", "BILLS (20 at most) are pasted", BillEdges::mostBills);
        Edge.of("======== 2", "at a column and row (its upper left CELL)", BillEdges::upperLeft);
        Edge.of("======== 2", "on THE DAY (0 at first).", BillEdges::firstDay);
        Edge.of("======== 2", "One pasted later lies over one that was pasted earlier, where both have CELLS.",
                BillEdges::oneCellInCommon);
        Edge.of("======== 2", "A BILL may be TORN at CELLS", BillEdges::tornAtAll);
        Edge.of("======== 2", "or be off (it has no CELLS then).", BillEdges::off);
        Edge.of("======== 2", "ABOVE at a CELL: the latest BILL that has it, not TORN there; NONE.", BillEdges::above);
        Edge.of("======== 2", "SEEN of a BILL: its CELLS at which it is ABOVE.", BillEdges::seen);
        Edge.of("======== 2", "if what is SEEN is R of a hundred or more of all its CELLS", BillEdges::readExactly);
        Edge.of("======== 2", "(as pasted: 100 times SEEN is R times all or more)", BillEdges::readOfAllAsPasted);
        Edge.of("======== 2", "for each BILL of another OWNER", BillEdges::fineOfAnother);
        Edge.of("======== 2", "that was pasted less than 'guard' days before", BillEdges::fineByDays);
        Edge.of("======== 2", "and loses SEEN CELLS by it", BillEdges::fineForSeen);
        Edge.of("======== 2", "F each (counted for the OWNER of the one that is pasted)", BillEdges::fineForEach);
        Edge.of("======== 2", "if it was pasted later, both are on", BillEdges::coversOn);
        Edge.of("======== 2", "and they have a CELL in common at which neither is TORN.", BillEdges::coversAtOneCell);
        Edge.of("======== 2", "all that cover it directly, all that cover these, and so on.", BillEdges::freeChain);
        Edge.of("======== 2", "the SET of fewest BILLS that can be taken off so (with each all that cover it)",
                BillEdges::readFewest);
        Edge.of("======== 2", "of like ones the least; NONE.", BillEdges::readLeast);
        Edge.of("======== 2", "RAIN of k (0 .. 100)", BillEdges::rainOfNoneAndAll);
        Edge.of("======== 2", "THE SEED (0 at first", BillEdges::firstSeed);
        Edge.of("======== 2", "times 1103515245 and 12345, left over by 2 to the 31", BillEdges::seedWraps);
        Edge.of("======== 2", "the DRAW of n is it / 65536, left over by n)", BillEdges::draw);
        Edge.of("======== 2", "CELL by CELL (row by row, column by column)", BillEdges::rainInOrder);
        Edge.of("======== 2", "at which some BILL is ABOVE: a DRAW of 100 below k", BillEdges::drawsOnlyAtBills);
        Edge.of("======== 2", "that BILL is TORN there.", BillEdges::rainTearsTheTop);
        Edge.of("======== 2", "the sum over its SEEN CELLS of how many pass their column", BillEdges::worth);
        Edge.of("======== 2", "0, if it cannot be READ.", BillEdges::worthUnread);
        Edge.of("======== 2", "Of an OWNER: of all its BILLS.", BillEdges::worthOfOwner);
    }

    private static void mostBills() {
        BillWall wall = Due.walled("size 1 1;kind 0 1 1;");
        for (int b = 0; b < 20; b++) {
            Due.due("paste", b, wall.paste(0, 0, 0));
        }
        Due.row("20", Due.of(Due.FULL, 20, 19), wall.paste(0, 0, 0), wall.told(7), wall.above(0, 0));
    }

    private static void upperLeft() {
        BillWall wall = Due.walled("size 5 4;kind 0 2 2;");
        wall.paste(0, 3, 2);
        Due.row("its CELLS", Due.of(0, 0, 0, 0), wall.above(3, 2), wall.above(4, 2), wall.above(3, 3),
                wall.above(4, 3));
        Due.row("next to it", Due.of(-1, -1, -1, -1), wall.above(2, 2), wall.above(2, 3), wall.above(3, 1),
                wall.above(2, 1));
    }

    private static void firstDay() {
        BillWall wall = Due.walled("size 1 1;kind 0 1 1;");
        wall.paste(0, 0, 0);
        wall.days(999);
        wall.paste(0, 0, 0);
        Due.row("days", Due.of(0, 999), wall.bill(0, 3), wall.bill(1, 3));
    }

    private static void oneCellInCommon() {
        BillWall wall = Due.walled("size 3 3;kind 0 2 2;");
        wall.paste(0, 0, 0);
        wall.paste(0, 1, 1);
        Due.row("a corner", Due.of(1, 0, 0, 0, 1, 3, 4), wall.above(1, 1), wall.above(0, 0), wall.above(1, 0),
                wall.above(0, 1), wall.above(2, 2), wall.bill(0, 4), wall.bill(1, 4));
    }

    private static void tornAtAll() {
        BillWall wall = Due.walled("size 2 1;kind 0 2 1;");
        wall.paste(0, 0, 0);
        Due.due("at none", 0, wall.bill(0, 5));
        wall.tear(0, 0);
        Due.due("at one", 1, wall.bill(0, 5));
        wall.tear(1, 0);
        Due.row("at all, but on", Due.of(2, 0, 0, 0, 1, 0, 0), wall.bill(0, 5), wall.bill(0, 4), wall.bill(0, 6),
                wall.bill(0, 7), wall.bill(0, 8), wall.over(0), wall.free(0));
        Due.row("it can be taken off", Due.of(0, 0), wall.peel(0), wall.bill(0, 8));
    }

    private static void off() {
        BillWall wall = Due.walled("size 2 1;kind 3 2 1;");
        wall.paste(0, 0, 0);
        wall.tear(1, 0);
        Due.due("TORN", 1, wall.bill(0, 5));
        wall.paste(0, 0, 0);
        wall.tear(0, 0);
        wall.peel(1);
        Due.due("the TORN CELLS of the one below are left", 1, wall.bill(0, 5));
        Due.row("no CELLS", Due.of(0, 0, 0, 0, 0), wall.bill(1, 4), wall.bill(1, 5), wall.bill(1, 6),
                wall.bill(1, 7), wall.bill(1, 8));
        Due.row("the one below", Due.of(0, Due.NONE, 0, 1), wall.above(0, 0), wall.above(1, 0), wall.over(0),
                wall.bill(0, 4));
        wall.peel(0);
        Due.row("all off", Due.of(Due.NONE, Due.NONE, 2, 0, 0), wall.above(0, 0), wall.tear(1, 0), wall.told(7),
                wall.owner(3, 2), wall.rain(100));
    }

    private static void above() {
        BillWall wall = Due.walled("size 1 1;kind 0 1 1;");
        Due.due("none yet", Due.NONE, wall.above(0, 0));
        for (int b = 0; b < 20; b++) {
            wall.paste(0, 0, 0);
        }
        for (int b = 19; b >= 0; b--) {
            Due.row("the latest", Due.of(b, b), wall.above(0, 0), wall.tear(0, 0));
        }
        Due.due("all TORN", Due.NONE, wall.above(0, 0));
    }

    private static void seen() {
        BillWall wall = Due.walled("kind 0 16 8;kind 0 1 1;kind 0 16 7;");
        wall.paste(0, 0, 0);
        Due.due("all", 128, wall.bill(0, 4));
        wall.paste(1, 15, 7);
        Due.due("all but one", 127, wall.bill(0, 4));
        wall.paste(2, 0, 0);
        Due.due("a row but one", 15, wall.bill(0, 4));
        wall.paste(0, 0, 0);
        Due.row("none", Due.of(0, 0, 0, 128), wall.bill(0, 4), wall.bill(1, 4), wall.bill(2, 4), wall.bill(3, 4));
    }

    private static void readExactly() {
        BillWall sixty = Due.walled("size 5 1;kind 0 5 1;");
        sixty.paste(0, 0, 0);
        sixty.tear(0, 0);
        sixty.tear(1, 0);
        Due.row("three of five are 60", Due.of(3, 1), sixty.bill(0, 4), sixty.bill(0, 6));
        sixty.tear(2, 0);
        Due.row("two of five", Due.of(2, 0), sixty.bill(0, 4), sixty.bill(0, 6));
        BillWall all = Due.walled("read 100;kind 0 16 8;");
        all.paste(0, 0, 0);
        Due.due("all of 128", 1, all.bill(0, 6));
        all.tear(8, 3);
        Due.due("127 of 128", 0, all.bill(0, 6));
        BillWall one = Due.walled("read 1;kind 0 16 6;kind 0 16 5;kind 0 15 1;");
        one.paste(0, 0, 0);
        one.paste(1, 0, 0);
        one.paste(2, 0, 5);
        Due.row("one of 96", Due.of(1, 1), one.bill(0, 4), one.bill(0, 6));
        BillWall less = Due.walled("read 1;kind 0 15 7;kind 0 15 6;kind 0 14 1;kind 0 13 1;");
        less.paste(0, 0, 0);
        less.paste(1, 0, 0);
        less.paste(2, 0, 6);
        Due.row("one of 105", Due.of(1, 0), less.bill(0, 4), less.bill(0, 6));
        less.peel(2);
        less.paste(3, 0, 6);
        Due.row("two of 105", Due.of(2, 1), less.bill(0, 4), less.bill(0, 6));
        less.peel(3);
        less.paste(1, 0, 1);
        Due.row("none", Due.of(0, 0), less.bill(0, 4), less.bill(0, 6));
    }

    private static void readOfAllAsPasted() {
        BillWall wall = Due.walled("size 2 1;read 51;kind 0 2 1;");
        wall.paste(0, 0, 0);
        wall.tear(1, 0);
        Due.row("TORN ones are of all", Due.of(1, 0), wall.bill(0, 4), wall.bill(0, 6));
        wall = Due.walled("size 2 1;read 50;kind 0 2 1;");
        wall.paste(0, 0, 0);
        wall.tear(1, 0);
        Due.row("half", Due.of(1, 1), wall.bill(0, 4), wall.bill(0, 6));
    }

    private static BillWall fining(String clauses) {
        return Due.walled("size 4 1;" + clauses + "kind 0 1 1;kind 1 1 1;kind 0 4 1;kind 1 4 1;");
    }

    private static void fineOfAnother() {
        BillWall wall = fining("");
        wall.paste(2, 0, 0);
        wall.paste(0, 0, 0);
        Due.row("one's own", Due.of(0, 0), wall.owner(0, 1), wall.owner(1, 1));
        wall.paste(1, 1, 0);
        Due.row("another one's", Due.of(0, 10), wall.owner(0, 1), wall.owner(1, 1));
        wall.paste(2, 0, 0);
        Due.row("two of one's own, one of another", Due.of(10, 10), wall.owner(0, 1), wall.owner(1, 1));
    }

    private static void fineByDays() {
        int[][] guardDaysFine = {{0, 0, 0}, {1, 0, 10}, {1, 1, 0}, {3, 2, 10}, {3, 3, 0}, {99, 98, 10}, {99, 99, 0},
            {99, 999, 0}};
        for (int[] row : guardDaysFine) {
            BillWall wall = fining("guard " + row[0] + ";");
            wall.days(5);
            wall.paste(0, 0, 0);
            wall.days(row[1]);
            wall.paste(1, 0, 0);
            Due.due("guard " + row[0] + ", " + row[1] + " days", row[2], wall.owner(1, 1));
        }
        BillWall untold = fining("");
        untold.paste(2, 0, 0);
        untold.days(2);
        untold.paste(1, 0, 0);
        Due.due("untold, two days", 10, untold.owner(1, 1));
        untold.days(1);
        untold.paste(1, 1, 0);
        Due.due("untold, three days", 10, untold.owner(1, 1));
    }

    private static void fineForSeen() {
        BillWall hidden = fining("");
        hidden.paste(0, 0, 0);
        hidden.paste(0, 0, 0);
        hidden.paste(1, 0, 0);
        Due.due("the hidden one loses nothing", 10, hidden.owner(1, 1));
        BillWall torn = fining("");
        torn.paste(2, 0, 0);
        torn.tear(1, 0);
        torn.paste(1, 1, 0);
        Due.due("TORN there", 0, torn.owner(1, 1));
        torn.paste(1, 2, 0);
        Due.due("not TORN there", 10, torn.owner(1, 1));
        BillWall off = fining("");
        off.paste(0, 0, 0);
        off.peel(0);
        off.paste(1, 0, 0);
        Due.due("off", 0, off.owner(1, 1));
        BillWall beside = fining("");
        beside.paste(0, 1, 0);
        beside.paste(1, 0, 0);
        beside.paste(1, 2, 0);
        Due.due("beside it", 0, beside.owner(1, 1));
    }

    private static void fineForEach() {
        BillWall wall = fining("fine 999;");
        for (int b = 0; b < 19; b++) {
            wall.paste(0, b % 4, 0);
        }
        wall.paste(3, 0, 0);
        Due.row("four are SEEN", Due.of(0, 4 * 999), wall.owner(0, 1), wall.owner(1, 1));
        BillWall once = fining("");
        once.paste(2, 0, 0);
        once.paste(3, 0, 0);
        Due.row("four CELLS of one", Due.of(0, 10), once.owner(0, 1), once.owner(1, 1));
        BillWall none = fining("fine 0;");
        none.paste(2, 0, 0);
        none.paste(3, 0, 0);
        Due.due("F is 0", 0, none.owner(1, 1));
    }

    private static void coversOn() {
        BillWall wall = Due.walled("size 2 1;kind 0 2 1;");
        wall.paste(0, 0, 0);
        wall.paste(0, 0, 0);
        wall.paste(0, 0, 0);
        Due.row("later ones alone", Due.of(6, 4, 0), wall.over(0), wall.over(1), wall.over(2));
        wall.peel(2);
        Due.row("off", Due.of(2, 0, 0), wall.over(0), wall.over(1), wall.over(2));
        wall.paste(0, 0, 0);
        Due.row("off, below another one", Due.of(2 + 8, 8, 0, 0), wall.over(0), wall.over(1), wall.over(2),
                wall.over(3));
    }

    private static void coversAtOneCell() {
        BillWall wall = Due.walled("size 4 4;kind 0 2 2;kind 0 1 1;");
        wall.paste(0, 1, 1);
        wall.paste(1, 0, 0);
        wall.paste(1, 3, 1);
        wall.paste(1, 1, 3);
        Due.due("next to it", 0, wall.over(0));
        wall.paste(0, 2, 2);
        Due.due("a corner", 1 << 4, wall.over(0));
        wall.tear(2, 2);
        Due.due("the upper one is TORN there", 0, wall.over(0));
        wall.tear(2, 2);
        wall.paste(1, 2, 2);
        Due.row("the lower ones are TORN there", Due.of(0, 0), wall.over(0), wall.over(4));
        wall.paste(0, 1, 2);
        Due.row("one CELL is TORN, another one is not", Due.of(1 << 6, 1 << 6, 1 << 6), wall.over(0), wall.over(4),
                wall.over(5));
    }

    private static void freeChain() {
        BillWall chain = Due.walled("size 16 2;kind 0 2 1;");
        for (int b = 0; b < 15; b++) {
            chain.paste(0, b, 0);
        }
        Due.row("a chain of 15", Due.of(0x7ffe, 2, 0x4000, 0, 0), chain.free(0), chain.over(0), chain.free(13),
                chain.free(14), chain.over(14));
        chain.tear(7, 0);
        Due.row("TORN in the middle", Due.of(0x7e, 0, 0x7f00), chain.free(0), chain.free(6), chain.free(7));
        BillWall alone = Due.walled("size 4 1;kind 0 2 1;");
        alone.paste(0, 0, 0);
        alone.paste(0, 2, 0);
        Due.row("none", Due.of(0, 0), alone.free(0), alone.free(1));
    }

    private static void readFewest() {
        BillWall wall = Due.walled("size 4 1;read 50;kind 0 4 1;kind 1 2 1;kind 2 1 1;");
        wall.paste(0, 0, 0);
        Due.due("none must come off: the empty SET", 0, wall.reveal(0));
        wall.paste(1, 0, 0);
        Due.due("half can be seen", 0, wall.reveal(0));
        wall.paste(1, 2, 0);
        wall.paste(2, 0, 0);
        Due.due("one, not two", 4, wall.reveal(0));
        wall.paste(2, 3, 0);
        Due.due("what covers it comes off too", 2 + 8, wall.reveal(0));
        wall.paste(2, 0, 0);
        Due.due("now the other two", 4 + 16, wall.reveal(0));
        BillWall all = Due.walled("size 4 1;read 100;kind 0 4 1;kind 2 1 1;");
        all.paste(0, 0, 0);
        for (int b = 1; b <= 12; b++) {
            all.paste(1, b % 4, 0);
        }
        Due.due("all of 12", 0x1ffe, all.reveal(0));
    }

    private static void readLeast() {
        BillWall wall = Due.walled("size 3 1;read 34;kind 0 3 1;kind 1 1 1;");
        wall.paste(0, 0, 0);
        wall.paste(1, 2, 0);
        wall.paste(1, 0, 0);
        wall.paste(1, 1, 0);
        Due.due("two of three", 2 + 4, wall.reveal(0));
        wall.tear(2, 0);
        Due.due("one of two", 4, wall.reveal(0));
        BillWall none = Due.walled("size 3 1;read 34;kind 0 3 1;kind 1 1 1;");
        none.paste(0, 0, 0);
        none.tear(0, 0);
        none.tear(1, 0);
        Due.due("nothing over it, and too much TORN", Due.NONE, none.reveal(0));
        none.paste(1, 2, 0);
        Due.due("too much TORN", Due.NONE, none.reveal(0));
        none.tear(2, 0);
        none.tear(2, 0);
        Due.due("all TORN", Due.NONE, none.reveal(0));
    }

    private static void rainOfNoneAndAll() {
        BillWall wall = Due.walled("size 3 1;kind 0 3 1;");
        wall.paste(0, 0, 0);
        wall.seed(24884);
        Due.row("0", Due.of(0, 0), wall.rain(0), wall.bill(0, 5));
        // its first DRAW is 99
        wall.seed(194);
        Due.row("100", Due.of(3, 3), wall.rain(100), wall.bill(0, 5));
        BillWall whole = Due.walled("kind 0 16 8;");
        whole.paste(0, 0, 0);
        Due.row("128 CELLS", Due.of(128, 128, 0), whole.rain(100), whole.bill(0, 5), whole.rain(100));
    }

    private static BillWall oneCell() {
        BillWall wall = Due.walled("size 1 1;kind 0 1 1;");
        wall.paste(0, 0, 0);
        return wall;
    }

    private static void firstSeed() {
        BillWall wall = oneCell();
        Due.row("0, and behind one DRAW", Due.of(0, 0, 0, 12345), wall.seed(0), wall.seed(0), wall.rain(0),
                wall.seed(0));
    }

    private static void seedWraps() {
        BillWall wall = oneCell();
        int[][] seeds = {{0, 12345}, {1, 1103527590}, {Integer.MAX_VALUE, 1043980748}};
        for (int[] seed : seeds) {
            wall.seed(seed[0]);
            wall.rain(0);
            Due.due("behind " + seed[0], seed[1], wall.seed(0));
        }
        wall = Due.walled("size 3 1;kind 0 3 1;");
        wall.paste(0, 0, 0);
        wall.seed(Integer.MAX_VALUE);
        wall.rain(0);
        Due.due("three DRAWS", 646343466, wall.seed(0));
    }

    private static void draw() {
        int[][] seedDraw = {{0, 0}, {4400, 0}, {24884, 67}, {194, 99}, {1, 38}, {Integer.MAX_VALUE, 29}};
        for (int[] one : seedDraw) {
            BillWall wall = oneCell();
            wall.seed(one[0]);
            Due.due("not below it", 0, wall.rain(one[1]));
            wall.seed(one[0]);
            Due.due("below one more", 1, wall.rain(one[1] + 1));
        }
    }

    private static void rainInOrder() {
        BillWall wall = Due.walled("size 2 2;kind 0 2 2;");
        wall.paste(0, 0, 0);
        // DRAWS 64, 6, 68, 74
        wall.seed(7);
        Due.row("the second CELL alone", Due.of(1, 0, Due.NONE, 0, 0), wall.rain(50), wall.above(0, 0),
                wall.above(1, 0), wall.above(0, 1), wall.above(1, 1));
    }

    private static void drawsOnlyAtBills() {
        BillWall none = Due.walled("kind 0 1 1;");
        none.seed(5);
        Due.row("no BILL, no DRAW", Due.of(0, 5), none.rain(100), none.seed(5));
        none.paste(0, 15, 7);
        none.seed(0);
        Due.row("one CELL, one DRAW", Due.of(0, 12345), none.rain(0), none.seed(0));
        none.tear(15, 7);
        none.seed(77);
        Due.row("TORN at its only CELL", Due.of(0, 77), none.rain(100), none.seed(0));
        BillWall off = oneCell();
        off.peel(0);
        off.seed(9);
        Due.row("off", Due.of(0, 9), off.rain(100), off.seed(0));
    }

    private static void rainTearsTheTop() {
        BillWall wall = Due.walled("size 2 1;kind 0 2 1;");
        wall.paste(0, 0, 0);
        wall.paste(0, 0, 0);
        Due.row("the upper one alone", Due.of(2, 0, 2, 0, 0), wall.rain(100), wall.bill(0, 5), wall.bill(1, 5),
                wall.above(0, 0), wall.above(1, 0));
        Due.row("then the lower one", Due.of(2, 2, Due.NONE), wall.rain(100), wall.bill(0, 5), wall.above(0, 0));
    }

    private static void worth() {
        BillWall wall = Due.walled("size 3 2;read 1;pass 0 0;pass 1 99;kind 0 3 2;kind 1 1 1;");
        wall.paste(0, 0, 0);
        Due.due("all", 2 * (0 + 99 + 1), wall.bill(0, 7));
        wall.paste(1, 1, 0);
        Due.row("SEEN ones", Due.of(101, 99), wall.bill(0, 7), wall.bill(1, 7));
        wall.tear(1, 1);
        Due.due("not TORN ones", 2, wall.bill(0, 7));
        wall.tear(2, 0);
        wall.tear(2, 1);
        Due.row("READ where none pass", Due.of(1, 0), wall.bill(0, 6), wall.bill(0, 7));
        StringBuilder text = new StringBuilder("kind 0 16 8;");
        for (int x = 0; x < 16; x++) {
            text.append("pass ").append(x).append(" 99;");
        }
        BillWall most = Due.walled(text.toString());
        most.paste(0, 0, 0);
        Due.due("the most", 128 * 99, most.bill(0, 7));
    }

    private static void worthUnread() {
        BillWall wall = Due.walled("size 2 1;read 51;pass 0 9;kind 0 2 1;kind 1 1 1;");
        wall.paste(0, 0, 0);
        wall.paste(1, 1, 0);
        Due.row("half is SEEN", Due.of(1, 0, 0), wall.bill(0, 4), wall.bill(0, 6), wall.bill(0, 7));
        wall.tear(1, 0);
        Due.row("all is SEEN", Due.of(2, 1, 10), wall.bill(0, 4), wall.bill(0, 6), wall.bill(0, 7));
    }

    private static void worthOfOwner() {
        BillWall wall = Due.walled("size 4 1;read 51;pass 0 9;kind 0 2 1;kind 0 1 1;kind 5 1 1;");
        Due.row("none", Due.of(0, 0), wall.owner(0, 0), wall.owner(5, 0));
        wall.paste(0, 0, 0);
        wall.paste(0, 2, 0);
        Due.due("two", 12, wall.owner(0, 0));
        wall.paste(1, 3, 0);
        Due.due("one of them can't be READ", 10 + 1, wall.owner(0, 0));
        wall.paste(2, 3, 0);
        Due.row("nor another one", Due.of(10, 1), wall.owner(0, 0), wall.owner(5, 0));
        wall.peel(3);
        wall.peel(2);
        wall.peel(0);
        Due.row("off", Due.of(2, 0), wall.owner(0, 0), wall.owner(5, 0));
    }
}
