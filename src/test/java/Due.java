/** Counts the answers that are not as due, and makes walls from texts. */
final class Due {
    static final int UNKNOWN = -100000001, OUTSIDE = -100000002, NOT = -100000003, FULL = -100000004, NONE = -1;

    private static int asked = 0;
    private static int wrong = 0;
    private static String under = "";

    private Due() {
    }

    static void due(String call, long want, long got) {
        asked++;
        if (got != want) {
            wrong++;
            System.out.println(under + call + " answered " + got + ", due is " + want);
        }
    }

    /** What is asked from now on stands under this, which is told with each wrong answer. */
    static void under(String heading) {
        under = heading;
    }

    static int asked() {
        return asked;
    }

    /** Answers of one call with several arguments, side by side. */
    static void row(String call, long[] want, long... got) {
        due(call + ", how many", want.length, got.length);
        for (int i = 0; i < want.length && i < got.length; i++) {
            due(call + " at " + i, want[i], got[i]);
        }
    }

    static long[] of(long... numbers) {
        return numbers;
    }

    static void feed(BillWall wall, String text) {
        for (int at = 0; at < text.length(); at += 8) {
            String part = text.substring(at, Math.min(at + 8, text.length()));
            long bytes = 0;
            for (char sign : part.toCharArray()) {
                bytes = bytes << 8 | sign;
            }
            wall.feed(part.length(), bytes);
        }
    }

    static BillWall walled(String text) {
        BillWall wall = new BillWall();
        feed(wall, text);
        int answer = wall.wall();
        if (answer < 0) {
            due("wall() of " + text, 0, answer);
        }
        return wall;
    }

    /** The text has this FAULT at this place, and leaves all else as it was. */
    static void faulty(String text, int number, int place) {
        BillWall wall = walled("size 3 2;kind 1 2 2;");
        wall.paste(0, 0, 0);
        wall.show(0, 1, 0);
        wall.keep(1);
        feed(wall, text);
        due("wall() of '" + text + "'", -10 - number, wall.wall());
        due("fault() of '" + text + "'", place, wall.fault());
        row("told behind '" + text + "'", of(3, 2, 1, 1, 0, 1), wall.told(0), wall.told(1), wall.told(6),
                wall.told(7), wall.told(9), wall.told(10));
        due("goBack behind '" + text + "'", 1, wall.goBack(1));
    }

    static void end(String name) {
        System.out.println(name + ": " + (asked - wrong) + " answers as due, " + wrong + " not");
        if (wrong != 0) {
            System.exit(1);
        }
    }
}
