/** Edges of promises 1 to 8. */
final class WallEdges {
    private static final int MAX = Edge.MAX, MIN = Edge.MIN;

    private WallEdges() {
    }

    static void all() {
        Edge.of(1, "THE WALL as untold, without KINDS; no BILLS.", WallEdges::newObject);
        Edge.of(2, "The n lowest bytes (n 1 .. 8) of a long", WallEdges::feedCount);
        Edge.of(2, "the highest of these first", WallEdges::feedOrder);
        Edge.of(2, "come behind THE TEXT: how many it has.", WallEdges::feedAnswer);
        Edge.of(2, "OUTSIDE, FULL (300).", WallEdges::feedFull);
        Edge.of(3, "THE TEXT (it is empty then, with a FAULT, too) becomes THE WALL", WallEdges::textEmptied);
        Edge.of(3, "(no BILLS, FINES, PHOTOGRAPH; THE DAY is 0; IMAGES are gone; THE SEED stays)", WallEdges::wallAnew);
        Edge.of(3, ": how many KINDS;", WallEdges::wallAnswer);
        Edge.of(3, "-10 less the number of its FAULT (all else is as it was).", WallEdges::wallWithFault);
        Edge.of(4, "The place (from 0 on) of the byte that has the FAULT of the latest wall()", WallEdges::faultPlace);
        Edge.of(4, "the latest wall(); NONE.", WallEdges::noFault);
        Edge.of(5, "0 columns, 1 rows, 2 guard, 3 fine, 4 read, 5 how many 'bare' strips, 6 KINDS",
                WallEdges::toldOfTheWall);
        Edge.of(5, "7 BILLS (also such as are off), 8 THE DAY, 9 bytes of THE TEXT, 10 BILLS of THE PHOTOGRAPH.",
                WallEdges::toldOfTheRest);
        Edge.of(5, "OUTSIDE.", WallEdges::toldOutside);
        Edge.of(6, "what = 0 OWNER, 1 columns, 2 rows.", WallEdges::kind);
        Edge.of(6, "UNKNOWN, OUTSIDE.", WallEdges::kindRefused);
        Edge.of(7, "How many pass a column.", WallEdges::passes);
        Edge.of(7, "OUTSIDE.", WallEdges::passesOutside);
        Edge.of(8, "Whether a CELL is of a 'bare' strip: 1, 0.", WallEdges::bare);
        Edge.of(8, "OUTSIDE.", WallEdges::bareOutside);
    }

    private static void newObject() {
        BillWall wall = new BillWall();
        Due.row("told", Due.of(16, 8, 3, 10, 60, 0, 0, 0, 0, 0, 0), wall.told(0), wall.told(1), wall.told(2),
                wall.told(3), wall.told(4), wall.told(5), wall.told(6), wall.told(7), wall.told(8), wall.told(9),
                wall.told(10));
        Due.row("empty", Due.of(Due.NONE, Due.UNKNOWN, Due.UNKNOWN, Due.UNKNOWN, Due.UNKNOWN, Due.UNKNOWN,
                Due.UNKNOWN, Due.UNKNOWN), wall.fault(), wall.kind(0, 0), wall.paste(0, 0, 0), wall.bill(0, 0),
                wall.show(0, 0, 0), wall.best(0, 0), wall.two(0, 0, 0), wall.rivals(0, 0, 1, 0));
        Due.row("no BILLS", Due.of(Due.UNKNOWN, Due.UNKNOWN, Due.UNKNOWN, Due.UNKNOWN, Due.UNKNOWN, Due.UNKNOWN, 0, 0,
                0, 1), wall.over(0), wall.free(0), wall.reveal(0), wall.peel(0), wall.look(0, 0, 0), wall.surely(0, 1),
                wall.owner(0, 0), wall.owner(0, 1), wall.owner(0, 2), wall.look(0, 0, Due.NONE));
        Due.row("the last CELL", Due.of(0, Due.NONE, Due.NONE, 1), wall.bare(15, 7), wall.above(15, 7),
                wall.tear(15, 7), wall.passes(15));
        Due.row("nothing to do", Due.of(0, 1, Due.NONE, 0, Due.NOT, Due.NOT, 0, 0), wall.burn(), wall.orders(),
                wall.order(0), wall.rain(100), wall.goBack(0), wall.goBack(1), wall.seed(0), wall.wall());
        Due.row("an IMAGE of none", Due.of(1, 5, 1, 0, 0), wall.keep(0), wall.days(5), wall.goBack(0), wall.told(8),
                wall.told(7));
    }

    private static void feedCount() {
        for (int n : new int[] {0, -1, 9, 64, MAX, MIN}) {
            Edge.refused("feed(" + n + ")", Due.OUTSIDE, Edge::scene, wall -> wall.feed(n, ' '));
        }
        BillWall wall = new BillWall();
        for (int n = 1; n <= 8; n++) {
            Due.due("feed(" + n + ")", n * (n + 1) / 2, wall.feed(n, 0x2020202020202020L));
        }
        Due.due("blanks", 0, wall.wall());
        wall.feed(1, 0x7878787878787820L);
        Due.due("the lowest one alone", 0, wall.wall());
        wall.feed(7, 0x7820202020202020L);
        Due.due("the lowest seven", 0, wall.wall());
        wall.feed(8, 0x7820202020202020L);
        Due.row("all eight", Due.of(-11, 0), wall.wall(), wall.fault());
        wall.feed(8, Long.MIN_VALUE | 0x0020202020202020L);
        Due.row("a highest bit", Due.of(-11, 0), wall.wall(), wall.fault());
        wall.feed(2, -1L);
        Due.row("a lowest byte of 255", Due.of(-11, 0), wall.wall(), wall.fault());
        wall.feed(1, 256L);
        Due.row("a byte of 0", Due.of(-11, 0), wall.wall(), wall.fault());
    }

    private static void feedOrder() {
        BillWall wall = new BillWall();
        wall.feed(8, 0x66696e6520373839L);
        wall.feed(1, ';');
        Due.row("fine 789;", Due.of(0, 789), wall.wall(), wall.told(3));
    }

    private static void feedAnswer() {
        BillWall wall = new BillWall();
        Due.row("feed", Due.of(1, 9, 9, 12), wall.feed(1, ' '), wall.feed(8, 0x2020202020202020L), wall.told(9),
                wall.feed(3, 0x202020L));
        wall.wall();
        Due.due("behind wall() it begins anew", 2, wall.feed(2, 0x2020L));
    }

    private static BillWall with(int bytes) {
        BillWall wall = Due.walled("size 5 3;kind 0 1 1;");
        Due.feed(wall, " ".repeat(bytes));
        return wall;
    }

    private static void feedFull() {
        Due.due("eight more than 292", 300, with(292).feed(8, 0x2020202020202020L));
        Due.due("one more than 299", 300, with(299).feed(1, ' '));
        Edge.refused("eight more than 293", Due.FULL, () -> with(293), wall -> wall.feed(8, 0x2020202020202020L));
        Edge.refused("two more than 299", Due.FULL, () -> with(299), wall -> wall.feed(2, 0x2020L));
        Edge.refused("one more than 300", Due.FULL, () -> with(300), wall -> wall.feed(1, ';'));
        Edge.refused("none more than 300", Due.OUTSIDE, () -> with(300), wall -> wall.feed(0, 0));
        BillWall wall = with(293);
        wall.feed(8, -1L);
        Due.row("what was refused is not in it", Due.of(294, 0), wall.feed(1, ' '), wall.wall());
    }

    private static void textEmptied() {
        BillWall wall = new BillWall();
        Due.feed(wall, "fine 5;");
        Due.row("without a FAULT", Due.of(0, 0), wall.wall(), wall.told(9));
        Due.feed(wall, "fine 6;fine");
        Due.row("with a FAULT", Due.of(-13, 0, 5), wall.wall(), wall.told(9), wall.told(3));
        Due.feed(wall, "guard 1;");
        Due.row("behind it", Due.of(0, 10, 1), wall.wall(), wall.told(3), wall.told(2));
    }

    private static void wallAnew() {
        BillWall wall = Edge.scene();
        wall.feed(1, ';');
        Due.due("FINES ahead", 10, wall.owner(1, 1));
        wall.keep(1);
        Due.row("anew", Due.of(0, 0, 0, 0, 0, 16, 8, Due.NONE, Due.UNKNOWN, 0, 0, Due.NOT, Due.NOT, 1, 77),
                wall.wall(), wall.told(7), wall.told(8), wall.told(10), wall.told(6), wall.told(0), wall.told(1),
                wall.above(1, 0), wall.bill(0, 0), wall.owner(0, 2), wall.owner(1, 1), wall.goBack(0), wall.goBack(1),
                wall.orders(), wall.seed(0));
        BillWall empty = Edge.fullScene();
        empty.feed(1, ';');
        empty.wall();
        Due.feed(empty, "kind 0 1 1;");
        Due.row("20 and ten can come again", Due.of(1, 0, 0), empty.wall(), empty.paste(0, 0, 0),
                empty.show(0, 0, 0));
        Due.row("as the first ones", Due.of(0, 0, 1, 1), empty.over(0), empty.bill(0, 5), empty.bill(0, 4),
                empty.orders());
        BillWall torn = Due.walled("kind 0 2 1;");
        torn.paste(0, 0, 0);
        torn.tear(1, 0);
        Due.feed(torn, "kind 0 2 1;");
        Due.row("so are TORN CELLS", Due.of(1, 0, 0, 2), torn.wall(), torn.paste(0, 0, 0), torn.bill(0, 5),
                torn.bill(0, 4));
        BillWall looked = Due.walled("kind 0 1 1;");
        looked.look(0, 0, Due.NONE);
        Due.feed(looked, "kind 0 1 1;");
        Due.row("looks are gone", Due.of(1, 0, 1), looked.wall(), looked.show(0, 0, 0), looked.orders());
    }

    private static void wallAnswer() {
        BillWall wall = new BillWall();
        for (int kinds = 0; kinds <= 12; kinds++) {
            Due.feed(wall, "kind 0 1 1;".repeat(kinds));
            Due.due(kinds + " KINDS", kinds, wall.wall());
        }
    }

    private static void wallWithFault() {
        String[] texts = {";x", ";guard 100;", ";fine 8;", ";pass 0 9;pass 0 9;"};
        for (int number = 1; number <= 4; number++) {
            BillWall wall = Edge.scene();
            // the scene has begun with "fine 7"
            Due.feed(wall, texts[number - 1]);
            Due.row(texts[number - 1], Due.of(-10 - number, 0), wall.wall(), wall.told(9));
            Due.row("BILLS", Due.of(4, 1, 1, 1, 0, 10), wall.told(7), wall.told(8), wall.above(1, 0),
                    wall.bill(0, 5), wall.bill(3, 8), wall.owner(1, 1));
            Due.row("THE WALL", Due.of(5, 3, 2, 10, 60, 1, 3, 1, 4, 1), wall.told(0), wall.told(1), wall.told(2),
                    wall.told(3), wall.told(4), wall.told(5), wall.told(6), wall.passes(0), wall.passes(1),
                    wall.bare(4, 2));
            Due.row("THE PHOTOGRAPH, IMAGES, THE SEED", Due.of(2, 1, 1, Due.NOT, 77), wall.told(10), wall.order(1),
                    wall.orders(), wall.goBack(1), wall.seed(0));
            Due.row("IMAGE 0", Due.of(1, 1, 0), wall.goBack(0), wall.told(7), wall.owner(1, 1));
        }
    }

    private static void faultPlace() {
        BillWall wall = new BillWall();
        Due.feed(wall, "x");
        Due.row("the first byte", Due.of(-11, 0), wall.wall(), wall.fault());
        Due.feed(wall, " ".repeat(299) + "x");
        Due.row("the last byte", Due.of(-11, 299), wall.wall(), wall.fault());
        Due.feed(wall, " ".repeat(296) + "fine");
        Due.row("the end", Due.of(-11, 300), wall.wall(), wall.fault());
        Due.feed(wall, "fine 5;read 0;");
        Due.row("of the latest", Due.of(300, -12, 12, 12), wall.fault(), wall.wall(), wall.fault(), wall.fault());
    }

    private static void noFault() {
        BillWall wall = new BillWall();
        Due.due("ahead of all wall()", Due.NONE, wall.fault());
        Due.row("an empty text", Due.of(0, Due.NONE), wall.wall(), wall.fault());
        Due.feed(wall, "x");
        wall.wall();
        Due.row("an empty text behind a FAULT", Due.of(0, 0, Due.NONE), wall.fault(), wall.wall(), wall.fault());
    }

    private static void toldOfTheWall() {
        BillWall least = Due.walled("size 1 1;guard 0;fine 0;read 1;");
        Due.row("least", Due.of(1, 1, 0, 0, 1, 0, 0), least.told(0), least.told(1), least.told(2), least.told(3),
                least.told(4), least.told(5), least.told(6));
        BillWall most = Due.walled("size 16 8;guard 99;fine 999;read 100;" + "bare 0 0 1 1;".repeat(8)
                + "kind 0 1 1;".repeat(12));
        Due.row("most", Due.of(16, 8, 99, 999, 100, 8, 12), most.told(0), most.told(1), most.told(2), most.told(3),
                most.told(4), most.told(5), most.told(6));
    }

    private static void toldOfTheRest() {
        BillWall full = Edge.fullScene();
        Due.row("most", Due.of(20, 0, 6, 10, 0), full.told(7), full.told(8), full.told(9), full.told(10),
                full.bill(19, 8));
        full.peel(18);
        full.days(999);
        Due.row("such as are off", Due.of(20, 999), full.told(7), full.told(8));
        BillWall wall = Due.walled("kind 0 1 1;");
        Due.row("least", Due.of(0, 0, 0, 0), wall.told(7), wall.told(8), wall.told(9), wall.told(10));
    }

    private static void toldOutside() {
        for (int what : new int[] {-1, 11, MAX, MIN}) {
            Edge.refused("told(" + what + ")", Due.OUTSIDE, Edge::scene, wall -> wall.told(what));
        }
    }

    private static void kind() {
        BillWall wall = Due.walled("kind 5 16 8;" + "kind 1 2 3;".repeat(10) + "kind 0 1 1;");
        Due.row("the first", Due.of(5, 16, 8), wall.kind(0, 0), wall.kind(0, 1), wall.kind(0, 2));
        Due.row("the last", Due.of(0, 1, 1), wall.kind(11, 0), wall.kind(11, 1), wall.kind(11, 2));
    }

    private static void kindRefused() {
        for (int k : new int[] {-1, 3, 12, MAX, MIN}) {
            Edge.refused("kind(" + k + ", 0)", Due.UNKNOWN, Edge::scene, wall -> wall.kind(k, 0));
            Edge.refused("kind(" + k + ", 3)", Due.UNKNOWN, Edge::scene, wall -> wall.kind(k, 3));
        }
        for (int what : new int[] {-1, 3, MAX, MIN}) {
            Edge.refused("kind(2, " + what + ")", Due.OUTSIDE, Edge::scene, wall -> wall.kind(2, what));
        }
        BillWall wall = Due.walled("kind 0 1 1;".repeat(12));
        Due.row("12 KINDS", Due.of(0, Due.UNKNOWN), wall.kind(11, 0), wall.kind(12, 0));
    }

    private static void passes() {
        BillWall wall = Due.walled("size 3 1;pass 0 0;pass 2 99;");
        Due.row("passes", Due.of(0, 1, 99), wall.passes(0), wall.passes(1), wall.passes(2));
    }

    private static void passesOutside() {
        for (int x : new int[] {-1, 5, 16, MAX, MIN}) {
            Edge.refused("passes(" + x + ")", Due.OUTSIDE, Edge::scene, wall -> wall.passes(x));
        }
        Due.row("16 columns", Due.of(1, Due.OUTSIDE), new BillWall().passes(15), new BillWall().passes(16));
    }

    private static void bare() {
        BillWall wall = Due.walled("size 4 3;bare 1 1 2 1;bare 3 2 1 1;bare 0 1 2 2;");
        String[] rows = {"0000", "1110", "1101"};
        for (int y = 0; y < 3; y++) {
            for (int x = 0; x < 4; x++) {
                Due.due("bare(" + x + ", " + y + ")", rows[y].charAt(x) - '0', wall.bare(x, y));
            }
        }
    }

    private static void bareOutside() {
        for (int far : new int[] {-1, 5, 16, MAX, MIN}) {
            Edge.refused("bare(" + far + ", 0)", Due.OUTSIDE, Edge::scene, wall -> wall.bare(far, 0));
        }
        for (int far : new int[] {-1, 3, 8, MAX, MIN}) {
            Edge.refused("bare(0, " + far + ")", Due.OUTSIDE, Edge::scene, wall -> wall.bare(0, far));
        }
        Due.row("16 columns, eight rows", Due.of(0, Due.OUTSIDE, Due.OUTSIDE), new BillWall().bare(15, 7),
                new BillWall().bare(16, 7), new BillWall().bare(15, 8));
    }
}
