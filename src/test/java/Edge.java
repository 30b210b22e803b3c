import java.io.IOException;
import java.nio.file.Files;
import java.nio.file.Path;
import java.util.Arrays;
import java.util.function.Supplier;
import java.util.function.ToIntFunction;

/** A test of its own for each sentence of the document that names an edge. */
final class Edge {
    static final int MAX = Integer.MAX_VALUE, MIN = Integer.MIN_VALUE;

    private static final Path DOCUMENT = Path.of("../shared/DOC.md");
    private static final int PROMISES = 31;
    private static final boolean[] met = new boolean[PROMISES + 1];
    private static String document = "";

    private Edge() {
    }

    static void open() throws IOException {
        if (Files.isReadable(DOCUMENT)) {
            document = Files.readString(DOCUMENT).replaceAll("\\s+", " ");
        }
    }

    /** The heading is a promise's number or the beginning of another heading's line. */
    static void of(String heading, String sentence, Runnable test) {
        Due.under("[" + heading + ": " + sentence + "] ");
        Due.due("stands in the document", 1, stands(heading, sentence) ? 1 : 0);
        int before = Due.asked();
        test.run();
        Due.due("asks something", 1, Due.asked() > before ? 1 : 0);
        Due.under("");
    }

    static void of(int promise, String sentence, Runnable test) {
        met[promise] = true;
        of("## Promise " + promise + ":", sentence, test);
    }

    private static boolean stands(String heading, String sentence) {
        if (document.isEmpty()) {
            return true;
        }
        int from = document.indexOf(heading + " ");
        if (from < 0) {
            return false;
        }
        int behind = from + heading.length();
        int end = Math.min(endOf(" ## ", behind), endOf(" ======== ", behind));
        return document.substring(behind, end).contains(sentence);
    }

    private static int endOf(String next, int from) {
        int at = document.indexOf(next, from);
        return at < 0 ? document.length() : at;
    }

    /** The call is refused so, and all answers the same as though it had never been made. */
    static void refused(String call, int refusal, Supplier<BillWall> scene, ToIntFunction<BillWall> asked) {
        changesNothing(call, refusal, scene, asked);
    }

    static void changesNothing(String call, int want, Supplier<BillWall> scene, ToIntFunction<BillWall> asked) {
        BillWall with = scene.get();
        BillWall without = scene.get();
        Due.due(call, want, asked.applyAsInt(with));
        same(call, without, with);
        for (int i = 0; i < 2; i++) {
            Due.due(call + ", then goBack(" + i + ")", without.goBack(i), with.goBack(i));
            same(call + ", then goBack(" + i + ")", without, with);
        }
        Due.due(call + ", then feed", without.feed(1, ';'), with.feed(1, ';'));
        Due.due(call + ", then wall", without.wall(), with.wall());
        Due.row(call + ", behind wall", Due.of(without.fault(), without.told(3), without.goBack(0)), with.fault(),
                with.told(3), with.goBack(0));
    }

    private static void same(String call, BillWall want, BillWall got) {
        Due.row(call + " changes nothing", all(want), all(got));
    }

    /** What can be asked without a change; of the scenes so little that an object stays below 512 calls. */
    static long[] all(BillWall wall) {
        long[] all = new long[1000];
        int n = 0;
        for (int what = 0; what <= 10; what++) {
            all[n++] = wall.told(what);
        }
        all[n++] = wall.fault();
        for (int k = 0; k < all[6]; k++) {
            all[n++] = wall.kind(k, 0);
        }
        int columns = (int) all[0];
        for (int cell = 0; cell < columns * all[1]; cell++) {
            all[n++] = wall.above(cell % columns, cell / columns);
        }
        int bills = (int) all[7];
        for (int b = Math.max(0, bills - 4); b < bills; b++) {
            for (int what = 3; what <= 8; what++) {
                all[n++] = wall.bill(b, what);
            }
            all[n++] = wall.over(b);
        }
        for (int o = 0; o < 2; o++) {
            for (int what = 0; what <= 2; what++) {
                all[n++] = wall.owner(o, what);
            }
        }
        all[n++] = wall.orders();
        all[n++] = wall.order(0);
        int seed = wall.seed(0);
        all[n++] = seed;
        wall.seed(seed);
        return Arrays.copyOf(all, n);
    }

    /**
     * Five columns, three rows, the last CELL bare; BILLS 0 to 3, of which 3 is off, each of the others TORN or
     * covered; a PHOTOGRAPH of two BILLS; IMAGE 0 kept, IMAGE 1 not; a clause begun in THE TEXT. KIND 2 has no place.
     */
    static BillWall scene() {
        BillWall wall = sceneWithoutBills();
        wall.paste(0, 0, 0);
        wall.days(1);
        wall.keep(0);
        wall.paste(1, 1, 0);
        wall.paste(0, 1, 1);
        wall.paste(1, 4, 0);
        wall.peel(3);
        wall.tear(0, 0);
        wall.seed(77);
        wall.show(0, 0, 0);
        wall.show(0, 1, 0);
        wall.look(1, 0, 1);
        return wall;
    }

    /** The same wall with 20 BILLS and a PHOTOGRAPH of ten. */
    static BillWall fullScene() {
        BillWall wall = sceneWithoutBills();
        for (int b = 0; b < 20; b++) {
            wall.paste(1, b % 4, 0);
        }
        for (int b = 0; b < 10; b++) {
            wall.show(1, 0, 0);
        }
        wall.peel(19);
        return wall;
    }

    private static BillWall sceneWithoutBills() {
        BillWall wall = Due.walled("size 5 3;guard 2;bare 4 2 1 1;pass 1 4;kind 0 3 2;kind 1 1 1;kind 0 5 3;");
        Due.feed(wall, "fine 7");
        return wall;
    }

    static void end() {
        for (int promise = 1; promise <= PROMISES; promise++) {
            Due.due("an edge of promise " + promise, 1, met[promise] ? 1 : 0);
        }
    }
}
