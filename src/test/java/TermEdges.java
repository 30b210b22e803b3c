/** Edges of what the document says ahead of section 1. */
final class TermEdges {
    private TermEdges() {
    }

    static void all() {
        Edge.of("## What it is", "An object is used for at most 512 calls after it has been made", TermEdges::lastCall);
        Edge.of("## Terms", "All numbers are whole; / cuts towards 0.", TermEdges::cutDivision);
        Edge.of("## Terms", "What has a number has it from 0 on, as it comes.", TermEdges::numbersFromZero);
        Edge.of("## Terms", "A SET is a whole number, bit k for k (of BILLS, if nothing else is told).",
                TermEdges::setOfTheLast);
        Edge.of("## Terms", "NONE is -1.", TermEdges::none);
        Edge.of("## Terms", "REFUSALS, of several the first in this order: UNKNOWN", TermEdges::firstRefusal);
        Edge.of("## Terms", "OUTSIDE (another number out of its bounds), NOT (not now, as told), FULL.",
                TermEdges::laterRefusals);
        Edge.of("## Terms", "They are far below all that is counted: -100000001 and on.", TermEdges::farBelow);
        Edge.of("## Terms", "What is refused changes nothing.", TermEdges::refusedChangesNothing);
    }

    private static void lastCall() {
        BillWall wall = new BillWall();
        // three calls of feed and one of wall
        Due.feed(wall, "size 1 1;kind 0 1 1;");
        wall.wall();
        for (int call = 5; call < 512; call++) {
            wall.days(999);
        }
        Due.due("the 512th call", 508 * 999, wall.days(999));
        BillWall dear = Due.walled("kind 0 1 1;kind 1 2 2;");
        for (int call = 5; call < 512; call++) {
            dear.rivals(0, 1, 1, 0);
        }
        Due.due("the 512th call", 2, dear.rivals(0, 1, 1, 2));
    }

    private static void cutDivision() {
        BillWall wall = Due.walled("size 1 1;kind 0 1 1;");
        wall.paste(0, 0, 0);
        // THE SEED 1043980748 / 65536 is 15929 and more than a half
        wall.seed(Edge.MAX);
        Due.row("a DRAW of 29, not of 30", Due.of(0, 1043980748), wall.rain(29), wall.seed(Edge.MAX));
        Due.row("below 30", Due.of(1, 1043980748), wall.rain(30), wall.seed(0));
    }

    private static void numbersFromZero() {
        BillWall wall = Due.walled("size 2 1;kind 4 1 1;kind 5 2 1;");
        Due.row("KINDS", Due.of(Due.UNKNOWN, 4, 5, Due.UNKNOWN), wall.kind(-1, 0), wall.kind(0, 0), wall.kind(1, 0),
                wall.kind(2, 0));
        Due.row("BILLS", Due.of(0, 1, Due.UNKNOWN, 0, 1, Due.UNKNOWN), wall.paste(0, 0, 0), wall.paste(1, 0, 0),
                wall.bill(-1, 0), wall.bill(0, 0), wall.bill(1, 0), wall.bill(2, 0));
        Due.row("BILLS of THE PHOTOGRAPH", Due.of(0, 1, Due.UNKNOWN, 1, 1, Due.UNKNOWN), wall.show(0, 0, 0),
                wall.show(0, 0, 0), wall.look(0, 0, -2), wall.look(0, 0, 0), wall.look(0, 0, 1), wall.look(0, 0, 2));
        Due.row("OWNERS", Due.of(Due.UNKNOWN, 0, 1, Due.UNKNOWN), wall.owner(-1, 2), wall.owner(0, 2),
                wall.owner(5, 2), wall.owner(6, 2));
        Due.row("IMAGES", Due.of(Due.UNKNOWN, 1, 1, Due.UNKNOWN), wall.keep(-1), wall.keep(0), wall.keep(1),
                wall.keep(2));
        Due.row("columns", Due.of(Due.OUTSIDE, 1, 1, Due.OUTSIDE), wall.passes(-1), wall.passes(0), wall.passes(1),
                wall.passes(2));
    }

    private static void setOfTheLast() {
        BillWall wall = Due.walled("size 1 1;kind 0 1 1;");
        for (int b = 0; b < 20; b++) {
            wall.paste(0, 0, 0);
        }
        Due.row("over", Due.of(0xffffe, 0xffffc, 0xc0000, 0x80000, 0), wall.over(0), wall.over(1), wall.over(17),
                wall.over(18), wall.over(19));
        Due.row("free", Due.of(0xffffe, 0x80000, 0), wall.free(0), wall.free(18), wall.free(19));
        Due.row("reveal", Due.of(0xfff00, 0x80000, 0), wall.reveal(7), wall.reveal(18), wall.reveal(19));
    }

    private static void none() {
        BillWall wall = Due.walled("size 2 1;kind 0 1 1;");
        Due.row("none", Due.of(-1, -1, -1, -1, -1), BillWall.NONE, wall.above(0, 0), wall.tear(0, 0), wall.fault(),
                wall.order(0));
        wall.show(0, 0, 0);
        Due.row("told as none", Due.of(1, 0), wall.look(0, 0, -1), wall.orders());
    }

    private static void firstRefusal() {
        BillWall wall = Edge.scene();
        Due.row("UNKNOWN ahead of OUTSIDE", unknown(11), wall.kind(3, 3), wall.kind(-1, -1), wall.paste(3, 5, 0),
                wall.bill(4, 9), wall.owner(6, 3), wall.show(3, 5, 0), wall.look(5, 0, 2), wall.best(3, 3),
                wall.two(3, 0, 5), wall.two(0, 3, 5), wall.rivals(0, 3, 0, 3));
        Due.row("UNKNOWN ahead of NOT", unknown(4), wall.paste(3, 4, 2), wall.two(3, 1, 0), wall.two(1, -1, 0),
                wall.goBack(2));
        BillWall full = Edge.fullScene();
        Due.row("UNKNOWN where it is full", unknown(4), full.paste(3, 0, 0), full.show(3, 0, 0), full.best(3, 0),
                full.two(0, 3, 0));
    }

    private static long[] unknown(int times) {
        long[] all = new long[times];
        java.util.Arrays.fill(all, Due.UNKNOWN);
        return all;
    }

    private static void laterRefusals() {
        BillWall wall = Edge.scene();
        Due.row("OUTSIDE ahead of NOT", Due.of(Due.OUTSIDE, Due.OUTSIDE, Due.OUTSIDE, Due.OUTSIDE),
                wall.paste(0, 3, 1), wall.best(2, 3), wall.two(0, 1, 5), wall.two(2, 2, -1));
        BillWall full = Edge.fullScene();
        Due.row("OUTSIDE where it is full", Due.of(Due.OUTSIDE, Due.OUTSIDE, Due.OUTSIDE, Due.OUTSIDE),
                full.paste(0, 3, 1), full.show(0, 3, 0), full.best(0, -1), full.two(0, 0, 5));
        Due.row("NOT ahead of FULL", Due.of(Due.NOT, Due.FULL), full.paste(1, 4, 2), full.paste(1, 3, 2));
        BillWall text = new BillWall();
        Due.feed(text, " ".repeat(300));
        Due.row("OUTSIDE ahead of FULL", Due.of(Due.OUTSIDE, Due.OUTSIDE, Due.FULL), text.feed(9, 0),
                text.feed(0, 0), text.feed(1, 0));
    }

    private static void farBelow() {
        Due.row("REFUSALS", Due.of(-100000001, -100000002, -100000003, -100000004), BillWall.UNKNOWN,
                BillWall.OUTSIDE, BillWall.NOT, BillWall.FULL);
        BillWall wall = Due.walled("size 16 2;fine 999;kind 0 1 1;kind 1 16 2;");
        for (int b = 0; b < 18; b++) {
            wall.paste(0, b % 16, b / 16);
        }
        Due.due("the lowest GAIN of two", 32 - 18 * 999, wall.two(1, 1, 4));
        wall.paste(0, 15, 1);
        Due.due("the lowest GAIN", 32 - 19 * 999, wall.best(1, 2));
    }

    private static void refusedChangesNothing() {
        Edge.refused("feed(0)", Due.OUTSIDE, Edge::scene, wall -> wall.feed(0, -1));
        Edge.refused("paste NOT", Due.NOT, Edge::scene, wall -> wall.paste(1, 4, 2));
        Edge.refused("paste FULL", Due.FULL, Edge::fullScene, wall -> wall.paste(0, 0, 0));
        Edge.refused("days(1000)", Due.OUTSIDE, Edge::scene, wall -> wall.days(1000));
        Edge.refused("peel NOT", Due.NOT, Edge::scene, wall -> wall.peel(0));
        Edge.refused("tear OUTSIDE", Due.OUTSIDE, Edge::scene, wall -> wall.tear(0, 3));
        Edge.refused("rain(101)", Due.OUTSIDE, Edge::scene, wall -> wall.rain(101));
        Edge.refused("show FULL", Due.FULL, Edge::fullScene, wall -> wall.show(0, 0, 0));
        Edge.refused("look UNKNOWN", Due.UNKNOWN, Edge::scene, wall -> wall.look(1, 0, 2));
        Edge.refused("seed(-1)", Due.OUTSIDE, Edge::scene, wall -> wall.seed(-1));
        Edge.refused("keep(2)", Due.UNKNOWN, Edge::scene, wall -> wall.keep(2));
        Edge.refused("goBack(1)", Due.NOT, Edge::scene, wall -> wall.goBack(1));
    }
}
