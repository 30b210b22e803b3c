/** Edges of promises 9 to 19. */
final class BillCallEdges {
    private static final int MAX = Edge.MAX, MIN = Edge.MIN;
    /** No BILLS of the scene. */
    private static final int[] NO_BILLS = {-1, 4, 19, 20, 32, MAX, MIN};

    private BillCallEdges() {
    }

    static void all() {
        Edge.of(9, "A BILL of a KIND is pasted: its number.", BillCallEdges::pasteAnswer);
        Edge.of(9, "UNKNOWN, OUTSIDE (beyond THE WALL)", BillCallEdges::pasteOutside);
        Edge.of(9, "NOT: on a 'bare' strip;", BillCallEdges::pasteOnStrip);
        Edge.of(9, "FULL (20).", BillCallEdges::pasteFull);
        Edge.of(10, "n days (0 .. 999) go by: THE DAY.", BillCallEdges::days);
        Edge.of(10, "OUTSIDE.", BillCallEdges::daysOutside);
        Edge.of(11, "ABOVE at a CELL; NONE.", BillCallEdges::above);
        Edge.of(11, "OUTSIDE.", BillCallEdges::aboveOutside);
        Edge.of(12, "0 KIND, 1 column, 2 row, 3 the day on which it was pasted", BillCallEdges::billAsPasted);
        Edge.of(12, "4 how many SEEN CELLS, 5 TORN ones, 6 whether it can be READ (1, 0), 7 WORTH, 8 whether it is on",
                BillCallEdges::billNow);
        Edge.of(12, "UNKNOWN, OUTSIDE.", BillCallEdges::billRefused);
        Edge.of(13, "Those that cover a BILL directly: the SET.", BillCallEdges::over);
        Edge.of(13, "UNKNOWN.", BillCallEdges::overUnknown);
        Edge.of(14, "TO FREE a BILL: the SET.", BillCallEdges::free);
        Edge.of(14, "UNKNOWN, NOT: it is off.", BillCallEdges::freeRefused);
        Edge.of(15, "TO READ a BILL; NONE.", BillCallEdges::reveal);
        Edge.of(15, "UNKNOWN, NOT: it is off", BillCallEdges::revealRefused);
        Edge.of(15, "or more than 12 are TO FREE it.", BillCallEdges::revealOfTooMany);
        Edge.of(16, "at how many CELLS another one is ABOVE then, where it was ABOVE.", BillCallEdges::peelAnswer);
        Edge.of(16, "UNKNOWN, NOT: it is off, or one that is on covers it directly.", BillCallEdges::peelRefused);
        Edge.of(17, "What is ABOVE at a CELL is TORN there: the BILL; NONE.", BillCallEdges::tear);
        Edge.of(17, "OUTSIDE.", BillCallEdges::tearOutside);
        Edge.of(18, "RAIN: how many CELLS were TORN.", BillCallEdges::rain);
        Edge.of(18, "OUTSIDE.", BillCallEdges::rainOutside);
        Edge.of(19, "0 WORTH, 1 FINES, 2 how many BILLS that are on.", BillCallEdges::owner);
        Edge.of(19, "UNKNOWN, OUTSIDE.", BillCallEdges::ownerRefused);
    }

    private static void pasteAnswer() {
        BillWall wall = Due.walled("size 3 2;kind 0 3 2;kind 0 1 1;");
        Due.row("as large as THE WALL, and each corner", Due.of(0, 1, 2, 3, 4, 5), wall.paste(0, 0, 0),
                wall.paste(1, 0, 0), wall.paste(1, 2, 0), wall.paste(1, 0, 1), wall.paste(1, 2, 1),
                wall.paste(0, 0, 0));
        wall.peel(5);
        Due.due("a number is not given twice", 6, wall.paste(1, 0, 0));
    }

    private static void pasteOutside() {
        for (int k : new int[] {-1, 3, 12, MAX, MIN}) {
            Edge.refused("paste(" + k + ", 0, 0)", Due.UNKNOWN, Edge::scene, wall -> wall.paste(k, 0, 0));
        }
        for (int x : new int[] {-1, 3, 5, 16, MAX, MAX - 2, MIN}) {
            Edge.refused("paste(0, " + x + ", 0)", Due.OUTSIDE, Edge::scene, wall -> wall.paste(0, x, 0));
        }
        for (int y : new int[] {-1, 2, 3, 8, MAX, MAX - 1, MIN}) {
            Edge.refused("paste(0, 0, " + y + ")", Due.OUTSIDE, Edge::scene, wall -> wall.paste(0, 0, y));
        }
        Due.row("the last place across, down", Due.of(4, 4), Edge.scene().paste(0, 2, 0), Edge.scene().paste(0, 0, 1));
        BillWall whole = Due.walled("kind 0 16 8;kind 0 1 1;");
        Due.row("as large as THE WALL", Due.of(Due.OUTSIDE, Due.OUTSIDE, 0, 1, Due.OUTSIDE, Due.OUTSIDE),
                whole.paste(0, 1, 0), whole.paste(0, 0, 1), whole.paste(0, 0, 0), whole.paste(1, 15, 7),
                whole.paste(1, 16, 7), whole.paste(1, 15, 8));
    }

    private static void pasteOnStrip() {
        String text = "size 7 7;bare 3 3 1 1;kind 0 2 2;";
        for (int y = 1; y <= 4; y++) {
            for (int x = 1; x <= 4; x++) {
                boolean touches = (x == 2 || x == 3) && (y == 2 || y == 3);
                Due.due("paste(0, " + x + ", " + y + ")", touches ? Due.NOT : 0, Due.walled(text).paste(0, x, y));
            }
        }
        Edge.refused("the last place", Due.NOT, Edge::scene, wall -> wall.paste(0, 2, 1));
        Edge.refused("the strip alone", Due.NOT, Edge::scene, wall -> wall.paste(1, 4, 2));
        Edge.refused("all of THE WALL", Due.NOT, Edge::scene, wall -> wall.paste(2, 0, 0));
        Due.row("next to the strip", Due.of(4, 4), Edge.scene().paste(1, 3, 2), Edge.scene().paste(1, 4, 1));
    }

    private static void pasteFull() {
        BillWall wall = Edge.scene();
        for (int b = 4; b < 20; b++) {
            Due.due("paste", b, wall.paste(1, 0, 0));
        }
        Due.row("such as are off count", Due.of(Due.FULL, 20, 0), wall.paste(1, 0, 0), wall.told(7), wall.bill(3, 8));
        Edge.refused("a 21st", Due.FULL, Edge::fullScene, full -> full.paste(1, 0, 2));
        Edge.refused("a 21st, of FINES", Due.FULL, Edge::fullScene, full -> full.paste(0, 0, 0));
        wall.goBack(0);
        Due.due("behind an IMAGE of one there is room", 1, wall.paste(1, 0, 0));
    }

    private static void days() {
        BillWall wall = new BillWall();
        Due.row("days", Due.of(0, 1, 1000, 1000, 1000), wall.days(0), wall.days(1), wall.days(999), wall.days(0),
                wall.told(8));
    }

    private static void daysOutside() {
        for (int n : new int[] {-1, 1000, MAX, MIN}) {
            Edge.refused("days(" + n + ")", Due.OUTSIDE, Edge::scene, wall -> wall.days(n));
        }
    }

    private static void above() {
        BillWall wall = Due.walled("size 2 2;kind 0 1 1;");
        wall.paste(0, 0, 0);
        wall.paste(0, 1, 1);
        Due.row("above", Due.of(0, Due.NONE, Due.NONE, 1), wall.above(0, 0), wall.above(1, 0), wall.above(0, 1),
                wall.above(1, 1));
    }

    private static void aboveOutside() {
        for (int x : new int[] {-1, 5, 16, MAX, MIN}) {
            Edge.refused("above(" + x + ", 0)", Due.OUTSIDE, Edge::scene, wall -> wall.above(x, 0));
        }
        for (int y : new int[] {-1, 3, 8, MAX, MIN}) {
            Edge.refused("above(0, " + y + ")", Due.OUTSIDE, Edge::scene, wall -> wall.above(0, y));
        }
        Due.row("the last CELL", Due.of(Due.NONE, Due.NONE), Edge.scene().above(4, 2), new BillWall().above(15, 7));
    }

    private static void billAsPasted() {
        BillWall wall = Edge.scene();
        Due.row("the first", Due.of(0, 0, 0, 0), wall.bill(0, 0), wall.bill(0, 1), wall.bill(0, 2), wall.bill(0, 3));
        Due.row("in the middle", Due.of(0, 1, 1, 1), wall.bill(2, 0), wall.bill(2, 1), wall.bill(2, 2),
                wall.bill(2, 3));
        Due.row("off", Due.of(1, 4, 0, 1), wall.bill(3, 0), wall.bill(3, 1), wall.bill(3, 2), wall.bill(3, 3));
        BillWall far = Due.walled("kind 0 1 1;".repeat(12));
        far.days(999);
        far.paste(11, 15, 7);
        Due.row("far", Due.of(11, 15, 7, 999), far.bill(0, 0), far.bill(0, 1), far.bill(0, 2), far.bill(0, 3));
    }

    private static void billNow() {
        BillWall wall = Edge.scene();
        // of six CELLS one is TORN, three are covered
        Due.row("the first", Due.of(2, 1, 0, 0, 1), wall.bill(0, 4), wall.bill(0, 5), wall.bill(0, 6),
                wall.bill(0, 7), wall.bill(0, 8));
        Due.row("one that is all SEEN", Due.of(6, 0, 1, 2 * (4 + 1 + 1), 1), wall.bill(2, 4), wall.bill(2, 5),
                wall.bill(2, 6), wall.bill(2, 7), wall.bill(2, 8));
        Due.row("off", Due.of(0, 0, 0, 0, 0), wall.bill(3, 4), wall.bill(3, 5), wall.bill(3, 6), wall.bill(3, 7),
                wall.bill(3, 8));
    }

    private static void billRefused() {
        for (int b : NO_BILLS) {
            Edge.refused("bill(" + b + ", 0)", Due.UNKNOWN, Edge::scene, wall -> wall.bill(b, 0));
            Edge.refused("bill(" + b + ", 9)", Due.UNKNOWN, Edge::scene, wall -> wall.bill(b, 9));
        }
        for (int what : new int[] {-1, 9, MAX, MIN}) {
            Edge.refused("bill(0, " + what + ")", Due.OUTSIDE, Edge::scene, wall -> wall.bill(0, what));
            Edge.refused("bill(3, " + what + "), off", Due.OUTSIDE, Edge::scene, wall -> wall.bill(3, what));
        }
        Due.row("the last of 20", Due.of(1, Due.UNKNOWN), Edge.fullScene().bill(19, 0), Edge.fullScene().bill(20, 0));
        BillWall wall = Edge.scene();
        wall.goBack(0);
        Due.row("one that an IMAGE has not", Due.of(0, Due.UNKNOWN), wall.bill(0, 0), wall.bill(1, 0));
    }

    private static void over() {
        BillWall wall = Edge.scene();
        Due.row("over", Due.of(2 + 4, 0, 0, 0), wall.over(0), wall.over(1), wall.over(2), wall.over(3));
        BillWall full = Edge.fullScene();
        Due.row("of the full", Due.of(0x11110, 1 << 18, 0, 0), full.over(0), full.over(14), full.over(15),
                full.over(19));
    }

    private static void overUnknown() {
        for (int b : NO_BILLS) {
            Edge.refused("over(" + b + ")", Due.UNKNOWN, Edge::scene, wall -> wall.over(b));
        }
        Due.due("behind the last of 20", Due.UNKNOWN, Edge.fullScene().over(20));
    }

    private static void free() {
        BillWall wall = Edge.scene();
        Due.row("free", Due.of(2 + 4, 0, 0), wall.free(0), wall.free(1), wall.free(2));
        BillWall full = Edge.fullScene();
        Due.row("of the full", Due.of(0x11110, 0), full.free(0), full.free(18));
    }

    private static void freeRefused() {
        for (int b : NO_BILLS) {
            Edge.refused("free(" + b + ")", Due.UNKNOWN, Edge::scene, wall -> wall.free(b));
        }
        Edge.refused("off", Due.NOT, Edge::scene, wall -> wall.free(3));
        Edge.refused("off, the last of 20", Due.NOT, Edge::fullScene, wall -> wall.free(19));
    }

    private static void reveal() {
        // BILL 0 needs four of six CELLS, has two, and BILL 2 hides two
        Due.due("the scene", 4, Edge.scene().reveal(0));
        Due.due("READ as it is", 0, Edge.scene().reveal(2));
        BillWall wall = Edge.scene();
        wall.tear(0, 1);
        Due.due("two more", 2 + 4, wall.reveal(0));
        wall.tear(2, 0);
        Due.due("no way", Due.NONE, wall.reveal(0));
        Edge.changesNothing("tried only", 4, Edge::scene, scene -> scene.reveal(0));
    }

    private static void revealRefused() {
        for (int b : NO_BILLS) {
            Edge.refused("reveal(" + b + ")", Due.UNKNOWN, Edge::scene, wall -> wall.reveal(b));
        }
        Edge.refused("off", Due.NOT, Edge::scene, wall -> wall.reveal(3));
    }

    private static void revealOfTooMany() {
        BillWall heap = Due.walled("size 1 1;kind 0 1 1;");
        for (int b = 0; b < 14; b++) {
            heap.paste(0, 0, 0);
        }
        Due.row("13, 12, 11", Due.of(Due.NOT, 0x3ffc, 0x3ff8), heap.reveal(0), heap.reveal(1), heap.reveal(2));
        heap.peel(13);
        Due.due("12 by one that is off", 0x1ffe, heap.reveal(0));
        BillWall seen = Due.walled("read 18;size 16 1;kind 0 16 1;kind 0 1 1;");
        seen.paste(0, 0, 0);
        for (int x = 0; x < 13; x++) {
            seen.paste(1, x, 0);
        }
        Due.row("READ under 13", Due.of(1, Due.NOT), seen.bill(0, 6), seen.reveal(0));
        seen.tear(12, 0);
        Due.row("READ under 12", Due.of(1, 0), seen.bill(0, 6), seen.reveal(0));
        BillWall chain = Due.walled("size 16 1;kind 0 2 1;kind 0 1 1;");
        for (int x = 0; x < 14; x++) {
            chain.paste(0, x, 0);
        }
        Due.row("13 in a chain, of which one covers it directly", Due.of(Due.NOT, 0x3ffc), chain.reveal(0),
                chain.reveal(1));
    }

    private static void peelAnswer() {
        BillWall wall = Due.walled("size 4 1;kind 0 2 1;kind 0 4 1;");
        wall.paste(0, 1, 0);
        wall.tear(1, 0);
        wall.paste(1, 0, 0);
        Due.row("of four CELLS one", Due.of(1, 0, Due.NONE), wall.peel(1), wall.above(2, 0), wall.above(1, 0));
        wall.paste(1, 0, 0);
        wall.tear(2, 0);
        Due.row("none, where it was not ABOVE", Due.of(0, 0), wall.peel(2), wall.above(2, 0));
        Due.row("none below", Due.of(0, Due.NONE), wall.peel(0), wall.above(2, 0));
        BillWall whole = Due.walled("kind 0 16 8;");
        whole.paste(0, 0, 0);
        whole.paste(0, 0, 0);
        Due.due("all", 128, whole.peel(1));
    }

    private static void peelRefused() {
        for (int b : NO_BILLS) {
            Edge.refused("peel(" + b + ")", Due.UNKNOWN, Edge::scene, wall -> wall.peel(b));
        }
        Edge.refused("off", Due.NOT, Edge::scene, wall -> wall.peel(3));
        Edge.refused("covered", Due.NOT, Edge::scene, wall -> wall.peel(0));
        BillWall wall = Edge.scene();
        Due.row("covered by one, by none", Due.of(1, Due.NOT, 2, 0, Due.NOT), wall.peel(1), wall.peel(0),
                wall.peel(2), wall.peel(0), wall.peel(0));
    }

    private static void tear() {
        BillWall wall = Due.walled("size 2 2;kind 0 2 2;");
        Due.due("none yet", Due.NONE, wall.tear(1, 1));
        for (int b = 0; b < 20; b++) {
            wall.paste(0, 0, 0);
        }
        for (int b = 19; b >= 0; b--) {
            Due.due("tear", b, wall.tear(1, 1));
        }
        Due.row("none any more", Due.of(Due.NONE, 1, 1, 19), wall.tear(1, 1), wall.bill(0, 5), wall.bill(19, 5),
                wall.tear(0, 0));
    }

    private static void tearOutside() {
        for (int x : new int[] {-1, 5, 16, MAX, MIN}) {
            Edge.refused("tear(" + x + ", 0)", Due.OUTSIDE, Edge::scene, wall -> wall.tear(x, 0));
        }
        for (int y : new int[] {-1, 3, 8, MAX, MIN}) {
            Edge.refused("tear(0, " + y + ")", Due.OUTSIDE, Edge::scene, wall -> wall.tear(0, y));
        }
        Edge.changesNothing("none there", Due.NONE, Edge::scene, wall -> wall.tear(4, 2));
    }

    private static void rain() {
        BillWall wall = Edge.scene();
        // CELLS (1, 0), (2, 0), (0, 1) and six of BILL 2
        Due.row("all", Due.of(9, 3, 1, 6), wall.rain(100), wall.bill(0, 5), wall.bill(1, 5), wall.bill(2, 5));
        Due.row("what is below", Due.of(3, 0), wall.rain(100), wall.rain(100));
        Edge.changesNothing("no BILLS", 0, () -> Due.walled("size 2 2;kind 0 1 1;"), none -> none.rain(100));
    }

    private static void rainOutside() {
        for (int k : new int[] {-1, 101, MAX, MIN}) {
            Edge.refused("rain(" + k + ")", Due.OUTSIDE, Edge::scene, wall -> wall.rain(k));
        }
    }

    private static void owner() {
        BillWall wall = Edge.scene();
        Due.row("the first", Due.of(12, 0, 2), wall.owner(0, 0), wall.owner(0, 1), wall.owner(0, 2));
        Due.row("another one, one of whose BILLS is off", Due.of(4, 10, 1), wall.owner(1, 0), wall.owner(1, 1),
                wall.owner(1, 2));
        Due.row("the last, who has none", Due.of(0, 0, 0), wall.owner(5, 0), wall.owner(5, 1), wall.owner(5, 2));
    }

    private static void ownerRefused() {
        for (int o : new int[] {-1, 6, 12, MAX, MIN}) {
            Edge.refused("owner(" + o + ", 0)", Due.UNKNOWN, Edge::scene, wall -> wall.owner(o, 0));
            Edge.refused("owner(" + o + ", 3)", Due.UNKNOWN, Edge::scene, wall -> wall.owner(o, 3));
        }
        for (int what : new int[] {-1, 3, MAX, MIN}) {
            Edge.refused("owner(1, " + what + ")", Due.OUTSIDE, Edge::scene, wall -> wall.owner(1, what));
        }
    }
}
