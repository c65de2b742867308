import java.io.IOException;
import java.io.UncheckedIOException;
import java.nio.file.Files;
import java.nio.file.Path;

/** Counts the answers that are not the ones that are due, and makes hands for the tests. */
final class Due {
    static final int BAD = -1, NO = -2, NONE = -3, FULL = -4;
    static final int NULL = -11, INDEX = -12, SIZE = -13, STORE = -14, SORT = -15, FIVE = -16, MANY = -17;
    /** Numbers that are no hand, no rack and so on, whatever the bound. */
    static final int[] NOWHERE = {-1, -2, Integer.MIN_VALUE, Integer.MAX_VALUE, 1 << 30};
    static final int LEAST = Integer.MIN_VALUE, GREATEST = Integer.MAX_VALUE;
    static final int[] NO_HANDS = {-1, 4, 5, LEAST, GREATEST};
    static final int[] NO_SORTS = {-1, 34, 35, 99, LEAST, GREATEST};

    private final String name;
    private String document = null;
    private String sentence = "";
    private int asked = 0;
    private int wrong = 0;

    Due(String test) {
        name = test;
    }

    /** What is asked from here on is due by these words; the document must have them. */
    void sentence(String words) {
        sentence = "";
        is("the document has: " + words, document().contains(words) ? 1 : 0, 1);
        sentence = " (" + words + ")";
    }

    private String document() {
        try {
            if (document == null) {
                document = Files.readString(Path.of("../shared/DOC.md")).replaceAll("\\s+", " ");
            }
            return document;
        } catch (IOException e) {
            throw new UncheckedIOException(e);
        }
    }

    void is(String call, int got, int want) {
        asked++;
        if (got != want) {
            wrong++;
            System.out.println(name + ": " + call + " answered " + got + ", due is " + want + sentence);
        }
    }

    void end() {
        System.out.println(name + ": " + asked + " answers, " + wrong + " of them wrong");
        if (wrong > 0) {
            System.exit(1);
        }
    }

    /** A new desk of which hand 0 holds these. */
    static TileDesk holding(int... sorts) {
        TileDesk desk = new TileDesk();
        hold(desk, 0, sorts);
        return desk;
    }

    static void hold(TileDesk desk, int h, int... sorts) {
        for (int sort : sorts) {
            if (desk.take(h, sort) < 0) {
                throw new IllegalStateException("hand " + h + " takes no " + sort);
            }
        }
    }

    /** A hand takes the tiles of a group and lays it open. */
    static void lay(TileDesk desk, int h, int code) {
        int sort = code % 100;
        switch (code / 100) {
            case 1: hold(desk, h, sort, sort + 1, sort + 2); break;
            case 2: hold(desk, h, sort, sort, sort); break;
            default: hold(desk, h, sort, sort, sort, sort); break;
        }
        if (desk.open(h, code / 100, sort) < 0) {
            throw new IllegalStateException("hand " + h + " lays no " + code);
        }
    }

    /** A new desk of which hand 0 has laid these groups, and holds these. */
    static TileDesk laid(int[] codes, int... held) {
        TileDesk desk = new TileDesk();
        for (int code : codes) {
            lay(desk, 0, code);
        }
        hold(desk, 0, held);
        return desk;
    }

    /** A hand that does not hold them takes these, and throws them. */
    static void throwAway(TileDesk desk, int h, int... sorts) {
        for (int sort : sorts) {
            hold(desk, h, sort);
            if (desk.discard(h, sort) < 0) {
                throw new IllegalStateException("hand " + h + " throws no " + sort);
            }
        }
    }
}
