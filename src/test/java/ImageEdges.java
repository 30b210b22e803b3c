/** Edges of IMAGES and of promises 29 to 31. */
final class ImageEdges {
    private static final int MAX = Edge.MAX, MIN = Edge.MIN;

    private ImageEdges() {
    }

    static void all() {
        Edge.of("======== 4", "IMAGES 0, 1 keep BILLS, THE DAY, FINES, THE SEED.", ImageEdges::whatIsKept);
        Edge.of(29, "THE SEED becomes v (0 .. 2147483647): what it was.", ImageEdges::seed);
        Edge.of(29, "OUTSIDE.", ImageEdges::seedOutside);
        Edge.of(30, "IMAGE i becomes what is so: 1.", ImageEdges::keep);
        Edge.of(30, "UNKNOWN.", ImageEdges::keepUnknown);
        Edge.of(31, "What is so becomes IMAGE i: 1.", ImageEdges::goBack);
        Edge.of(31, "UNKNOWN, NOT: it was not kept.", ImageEdges::goBackRefused);
    }

    private static void whatIsKept() {
        BillWall wall = Edge.scene();
        wall.keep(1);
        long[] before = Edge.all(wall);
        wall.days(999);
        wall.rain(100);
        wall.peel(1);
        while (wall.paste(1, 1, 0) >= 0) {
            wall.days(1);
        }
        wall.paste(0, 0, 0);
        wall.seed(MAX);
        Due.row("IMAGE 1", Due.of(20, 1), wall.told(7), wall.goBack(1));
        Due.row("all as it was", before, Edge.all(wall));
        BillWall moved = Due.walled("size 4 4;kind 0 1 1;kind 1 2 2;");
        moved.paste(1, 2, 1);
        moved.keep(0);
        moved.paste(0, 0, 0);
        moved.keep(1);
        moved.goBack(0);
        moved.days(4);
        moved.paste(1, 1, 2);
        Due.row("where they hang", Due.of(1, 2, 1, 2, 4), moved.bill(1, 0), moved.over(0), moved.bill(1, 1),
                moved.bill(1, 2), moved.bill(1, 3));
        moved.goBack(1);
        Due.row("where they hung", Due.of(0, 0, 0, 0, 0, 1, Due.NONE), moved.bill(1, 0), moved.bill(1, 1),
                moved.bill(1, 2), moved.bill(1, 3), moved.over(0), moved.above(0, 0), moved.above(1, 2));
        BillWall shown = Edge.scene();
        shown.keep(1);
        shown.burn();
        shown.show(1, 0, 0);
        shown.look(0, 0, Due.NONE);
        shown.feed(1, ';');
        shown.goBack(1);
        Due.row("neither THE PHOTOGRAPH nor THE TEXT", Due.of(1, 0, 7), shown.told(10), shown.orders(),
                shown.told(9));
    }

    private static void seed() {
        BillWall wall = new BillWall();
        Due.row("seed", Due.of(0, 1, MAX, MAX - 1, 0), wall.seed(1), wall.seed(MAX), wall.seed(MAX - 1),
                wall.seed(0), wall.seed(0));
    }

    private static void seedOutside() {
        for (int v : new int[] {-1, -77, MIN, MIN + 1}) {
            Edge.refused("seed(" + v + ")", Due.OUTSIDE, Edge::scene, wall -> wall.seed(v));
        }
    }

    private static void keep() {
        BillWall wall = Due.walled("size 1 1;kind 0 1 1;");
        Due.row("none, then all", Due.of(1, 0, 1), wall.keep(0), wall.paste(0, 0, 0), wall.keep(1));
        wall.tear(0, 0);
        Due.row("IMAGE 1", Due.of(1, 1, 0, 1), wall.goBack(1), wall.told(7), wall.bill(0, 5), wall.bill(0, 4));
        Due.row("IMAGE 0", Due.of(1, 0, Due.UNKNOWN, Due.NONE), wall.goBack(0), wall.told(7), wall.bill(0, 0),
                wall.above(0, 0));
        Due.row("IMAGE 1 anew", Due.of(1, 0, 0), wall.keep(1), wall.paste(0, 0, 0), wall.days(0));
        Due.row("it is that of none now", Due.of(1, 0), wall.goBack(1), wall.told(7));
        Edge.changesNothing("keep of what is kept", 1, ImageEdges::bothKept, kept -> kept.keep(1));
    }

    private static BillWall bothKept() {
        BillWall wall = Edge.scene();
        wall.keep(1);
        return wall;
    }

    private static void keepUnknown() {
        for (int i : new int[] {-1, 2, MAX, MIN}) {
            Edge.refused("keep(" + i + ")", Due.UNKNOWN, Edge::scene, wall -> wall.keep(i));
        }
    }

    private static void goBack() {
        BillWall wall = Edge.scene();
        long[] now = Edge.all(wall);
        Due.row("back", Due.of(1, 1, 1, 0, 0, 0, 0), wall.goBack(0), wall.told(7), wall.told(8), wall.bill(0, 5),
                wall.owner(1, 1), wall.owner(1, 2), wall.seed(5));
        Due.row("again", Due.of(1, 1, 0), wall.goBack(0), wall.told(7), wall.seed(0));
        wall.keep(1);
        Due.row("what was so is gone", Due.of(1, 1, Due.UNKNOWN), wall.goBack(1), wall.told(7), wall.bill(1, 0));
        wall.paste(1, 1, 0);
        wall.paste(0, 1, 1);
        wall.paste(1, 4, 0);
        wall.peel(3);
        wall.tear(0, 0);
        wall.seed(77);
        Due.row("the same calls make the same", now, Edge.all(wall));
        BillWall full = Edge.fullScene();
        full.keep(0);
        Due.row("of 20", Due.of(1, 20, Due.FULL, 0), full.goBack(0), full.told(7), full.paste(1, 0, 0),
                full.bill(19, 8));
    }

    private static void goBackRefused() {
        for (int i : new int[] {-1, 2, MAX, MIN}) {
            Edge.refused("goBack(" + i + ")", Due.UNKNOWN, Edge::scene, wall -> wall.goBack(i));
        }
        Edge.refused("IMAGE 1 was not kept", Due.NOT, Edge::scene, wall -> wall.goBack(1));
        Edge.refused("IMAGE 0 was not kept", Due.NOT, Edge::fullScene, wall -> wall.goBack(0));
        BillWall wall = bothKept();
        wall.feed(1, ';');
        Due.row("a FAULT leaves them", Due.of(-11, 1, 1), faulty(wall), wall.goBack(0), wall.goBack(1));
        Due.row("a new wall does not", Due.of(0, Due.NOT, Due.NOT), wall.wall(), wall.goBack(0), wall.goBack(1));
    }

    private static int faulty(BillWall wall) {
        wall.feed(1, 'x');
        return wall.wall();
    }
}
