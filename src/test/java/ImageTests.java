/** Promises 29 to 31: draws and IMAGES. */
final class ImageTests {
    private ImageTests() {
    }

    public static void main(String[] args) {
        seed();
        images();
        whatImagesLeave();
        refused();
        Due.end("ImageTests");
    }

    private static void seed() {
        BillWall wall = new BillWall();
        Due.row("seed", Due.of(0, 5, Due.OUTSIDE, Due.OUTSIDE, Integer.MAX_VALUE, 0), wall.seed(5),
                wall.seed(Integer.MAX_VALUE), wall.seed(-1), wall.seed(Integer.MIN_VALUE), wall.seed(0),
                wall.seed(1));
        wall = Due.walled("size 1 1;kind 0 1 1;");
        wall.paste(0, 0, 0);
        wall.seed(Integer.MAX_VALUE);
        wall.rain(0);
        Due.due("a DRAW behind the greatest", (Integer.MAX_VALUE * 1103515245L + 12345L) % (1L << 31), wall.seed(0));
    }

    private static void images() {
        BillWall wall = Due.walled("size 4 2;fine 6;kind 0 2 2;kind 1 2 1;");
        wall.paste(0, 0, 0);
        wall.paste(1, 1, 0);
        wall.tear(2, 0);
        wall.seed(9);
        wall.days(3);
        Due.due("keep(0)", 1, wall.keep(0));
        wall.paste(1, 0, 1);
        wall.days(4);
        wall.peel(2);
        wall.rain(100);
        wall.paste(0, 2, 0);
        wall.paste(1, 2, 0);
        Due.due("keep(1)", 1, wall.keep(1));
        Due.due("goBack(0)", 1, wall.goBack(0));
        Due.row("IMAGE 0", Due.of(2, 3, 6, 0, 1, Due.NONE, 1, 0, 1), wall.told(7), wall.told(8), wall.owner(1, 1),
                wall.above(0, 0), wall.above(1, 0), wall.above(2, 0), wall.bill(1, 5), wall.bill(0, 5),
                wall.bill(0, 8));
        Due.due("its SEED", 9, wall.seed(3));
        Due.due("goBack(1)", 1, wall.goBack(1));
        Due.row("IMAGE 1", Due.of(5, 7, 12, 0, 4, 3), wall.told(7), wall.told(8), wall.owner(1, 1), wall.bill(2, 8),
                wall.above(2, 0), wall.above(2, 1));
        wall.goBack(0);
        wall.paste(0, 1, 0);
        wall.goBack(0);
        Due.due("an IMAGE stays as it was kept", 2, wall.told(7));
        wall.keep(1);
        wall.paste(0, 1, 0);
        wall.goBack(1);
        Due.due("kept anew", 2, wall.told(7));
    }

    private static void whatImagesLeave() {
        BillWall wall = Due.walled("kind 0 2 2;");
        wall.keep(0);
        wall.show(0, 0, 0);
        wall.look(0, 0, Due.NONE);
        wall.feed(2, 0);
        wall.goBack(0);
        Due.row("THE PHOTOGRAPH and THE TEXT are not of it", Due.of(1, 2, 0), wall.told(10), wall.told(9),
                wall.orders());
    }

    private static void refused() {
        BillWall wall = new BillWall();
        Due.row("IMAGES refused", Due.of(Due.UNKNOWN, Due.UNKNOWN, Due.UNKNOWN, Due.UNKNOWN, Due.NOT, Due.NOT),
                wall.keep(2), wall.keep(-1), wall.goBack(2), wall.goBack(-1), wall.goBack(0), wall.goBack(1));
        wall.keep(1);
        Due.row("the other one was not kept", Due.of(Due.NOT, 1), wall.goBack(0), wall.goBack(1));
        Due.feed(wall, "x");
        wall.wall();
        Due.due("a FAULT leaves IMAGES", 1, wall.goBack(1));
        wall.wall();
        Due.due("a new wall does not", Due.NOT, wall.goBack(1));
    }
}
