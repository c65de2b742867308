import java.util.ArrayList;
import java.util.Arrays;
import java.util.List;
import java.util.function.ToIntFunction;

/**
 * "nothing changes then": each refusal that the document names, on a desk made ready, behind which all that can be asked
 * of the desk is as of one of which nothing was refused. Calls that only ask are looked at in the same way.
 */
public final class RefusedTest {
    private static final Due due = new Due("RefusedTest");
    private static final int BAD = Due.BAD, NO = Due.NO, NONE = Due.NONE, FULL = Due.FULL;
    private static final int[][] HELD = {
        {0, 0, 0, 1, 1, 1, 2, 2, 2, 9, 10, 11, 33, 33}, {3, 3, 3, 12, 12, 12, 21, 21, 21, 32}, {5, 5, 5},
    };
    private static final int[] AS_READY = state(ready());

    public static void main(String[] args) {
        due.is("two desks alike", Arrays.equals(AS_READY, state(ready())) ? 1 : 0, 1);
        due.is("a change is seen", Arrays.equals(AS_READY, state(changed())) ? 1 : 0, 0);
        due.sentence("BAD: a number is none that is told, there is no such thing. NO: not as things stand. Of several the first in this order; nothing changes then.");
        racks();
        reads();
        tiles();
        groups();
        hands();
        worth();
        asking();
        drawOfNoWall();
        ruleOfTwenty();
        due.end();
    }

    // ---- a desk made ready, and all that can be asked of it

    private static TileDesk ready() {
        TileDesk desk = new TileDesk();
        Due.lay(desk, 1, 124);
        Due.lay(desk, 2, 330);
        Due.hold(desk, 0, HELD[0]);
        Due.hold(desk, 1, HELD[1]);
        Due.hold(desk, 2, HELD[2]);
        Due.throwAway(desk, 3, 32, 7);
        int[] values = {5, 34, 5, 31};
        for (int r = 0; r < 3; r++) {
            desk.rack(r, r, values.length);
            for (int i = 0; i < values.length; i++) {
                desk.place(r, i, values[i]);
            }
        }
        desk.rack(3, 0, 3);
        desk.rack(4, 0, 0);
        desk.rule(7, 3, -1);
        desk.rule(6, 4, 5);
        desk.rule(5, 50, -1);
        desk.count(0, true);
        desk.seed(77);
        return desk;
    }

    private static TileDesk changed() {
        TileDesk desk = ready();
        desk.seed(78);
        return desk;
    }

    private static int[] state(TileDesk desk) {
        List<Integer> all = new ArrayList<>();
        for (int sort = 0; sort < 34; sort++) {
            for (int place = 0; place < 10; place++) {
                all.add(desk.tiles(sort, place));
            }
        }
        for (int h = 0; h < 4; h++) {
            for (int what = 0; what < 7; what++) {
                all.add(desk.about(h, what));
            }
        }
        for (int r = 0; r < 6; r++) {
            for (int i = 0; i < 5; i++) {
                all.add(desk.told(r, i));
            }
        }
        for (int r = 0; r < 3; r++) {
            all.add(desk.place(r, 0, 40000));
        }
        all.add(desk.worth(0));
        all.add(desk.by(0));
        all.add(desk.odds(1, 2));
        all.add(desk.clearRules());
        all.add(desk.count(0, false));
        all.add(desk.count(1, false));
        all.add(desk.draw(3));
        all.add(desk.draw(3));
        return all.stream().mapToInt(Integer::intValue).toArray();
    }

    private static void same(String call, int want, ToIntFunction<TileDesk> act) {
        TileDesk desk = ready();
        due.is(call, act.applyAsInt(desk), want);
        int[] now = state(desk);
        for (int k = 0; k < now.length; k++) {
            due.is("what can be asked, number " + k + ", behind " + call, now[k], AS_READY[k]);
        }
    }

    // ---- what is refused

    private static void racks() {
        same("rack 6", BAD, desk -> desk.rack(6, 0, 2));
        same("rack -1", BAD, desk -> desk.rack(-1, -1, 2));
        same("kind 3", BAD, desk -> desk.rack(0, 3, 2));
        same("kind -2", BAD, desk -> desk.rack(0, -2, 2));
        same("rack of -1", Due.SIZE, desk -> desk.rack(0, 1, -1));
        same("rack of 41", FULL, desk -> desk.rack(0, 1, 41));
        same("place of rack 6", -100000, desk -> desk.place(6, 0, 9));
        same("place of a missing one", -100011, desk -> desk.place(5, 0, 9));
        same("place 4 of four", -100012, desk -> desk.place(0, 4, 9));
        same("place -1", -100012, desk -> desk.place(0, -1, 9));
        same("place 0 of none", -100012, desk -> desk.place(4, 0, 9));
        same("copy from rack 6", BAD, desk -> desk.copy(6, 0, 0, 0, 1));
        same("copy to rack -1", BAD, desk -> desk.copy(0, 0, -1, 0, 1));
        same("copy from a missing one", Due.NULL, desk -> desk.copy(5, 0, 0, 0, 1));
        same("copy to a missing one", Due.NULL, desk -> desk.copy(0, 0, 5, 0, 1));
        same("copy to another kind", Due.STORE, desk -> desk.copy(0, 0, 1, 1, 1));
        same("copy of -1", Due.INDEX, desk -> desk.copy(0, 1, 0, 2, -1));
        same("copy from -1", Due.INDEX, desk -> desk.copy(0, -1, 0, 2, 2));
        same("copy to -1", Due.INDEX, desk -> desk.copy(0, 0, 0, -1, 2));
        same("copy beyond the one", Due.INDEX, desk -> desk.copy(3, 1, 0, 0, 3));
        same("copy beyond the other", Due.INDEX, desk -> desk.copy(0, 0, 3, 0, 4));
        same("copy beyond itself", Due.INDEX, desk -> desk.copy(0, 0, 0, 1, 4));
        same("copy of very many", Due.INDEX, desk -> desk.copy(0, 1, 0, 0, Due.GREATEST));
        same("told of rack 6", -100000, desk -> desk.told(6, 0));
        same("told of a missing one", -100011, desk -> desk.told(5, 0));
        same("told beyond", -100012, desk -> desk.told(3, 3));
    }

    private static void reads() {
        same("read of hand 4", BAD, desk -> desk.read(4, 0, 0, 1));
        same("read of rack 6", BAD, desk -> desk.read(3, 6, 0, 1));
        same("read of a missing one", Due.NULL, desk -> desk.read(3, 5, 0, 1));
        same("read of -1", Due.SIZE, desk -> desk.read(3, 0, 0, -1));
        same("read beyond", Due.INDEX, desk -> desk.read(3, 0, 3, 2));
        same("read from -1", Due.INDEX, desk -> desk.read(3, 0, -1, 2));
        same("read of a full hand", Due.MANY, desk -> desk.read(0, 0, 0, 1));
        same("read of two at rest", Due.MANY, desk -> desk.read(1, 3, 0, 2));
        same("read of no sort", Due.SORT, desk -> desk.read(3, 0, 1, 1));
        same("read of a sort, and of none", Due.SORT, desk -> desk.read(3, 0, 0, 2));
        same("read of one too many", Due.FIVE, desk -> {
            desk.place(0, 1, 5);
            int answer = desk.read(3, 0, 0, 3);
            desk.place(0, 1, 34);
            return answer;
        });
    }

    private static void tiles() {
        same("take of hand 4", BAD, desk -> desk.take(4, 0));
        same("take of sort 34", BAD, desk -> desk.take(3, 34));
        same("take of sort -1", BAD, desk -> desk.take(3, -1));
        same("take of a full hand", NO, desk -> desk.take(0, 20));
        same("take of a sort of which none is left", Due.FIVE, desk -> desk.take(3, 30));
        same("seed -1", BAD, desk -> desk.seed(-1));
        same("seed far below", BAD, desk -> desk.seed(Due.LEAST));
        same("draw of hand 4", BAD, desk -> desk.draw(4));
        same("draw of hand -1", BAD, desk -> desk.draw(-1));
        same("draw of a full hand", NO, desk -> desk.draw(0));
        same("deal -1", BAD, desk -> desk.deal(-1));
        same("deal far below", BAD, desk -> desk.deal(Due.LEAST));
        same("discard of hand 4", BAD, desk -> desk.discard(4, 0));
        same("discard of sort 34", BAD, desk -> desk.discard(0, 34));
        same("discard of one not held", NO, desk -> desk.discard(0, 32));
        same("discard of one that is open", NO, desk -> desk.discard(2, 30));
        same("clear of hand 4", BAD, desk -> desk.clear(4));
        same("clear of hand -1", BAD, desk -> desk.clear(-1));
        same("tiles of sort 34", BAD, desk -> desk.tiles(34, 0));
        same("tiles of place 10", BAD, desk -> desk.tiles(0, 10));
        same("about of hand 4", BAD, desk -> desk.about(4, 0));
        same("about 7", BAD, desk -> desk.about(0, 7));
        same("the code of none", NONE, desk -> desk.about(1, 4));
    }

    private static void groups() {
        same("open of hand 4", BAD, desk -> desk.open(4, 2, 0));
        same("open of kind 0", BAD, desk -> desk.open(0, 0, 33));
        same("open of kind 4", BAD, desk -> desk.open(0, 4, 0));
        same("open of sort 34", BAD, desk -> desk.open(0, 2, 34));
        same("open of a run that is none", BAD, desk -> desk.open(0, 1, 8));
        same("open of a run of row 3", BAD, desk -> desk.open(0, 1, 31));
        same("open of a run whose last one is not held", NO, desk -> desk.open(0, 1, 1));
        same("open of a run of which none is held", NO, desk -> desk.open(0, 1, 15));
        same("open of a three of two", NO, desk -> desk.open(0, 2, 33));
        same("open of a four of three", NO, desk -> desk.open(0, 3, 0));
        same("open of what is open", NO, desk -> desk.open(2, 3, 30));
        same("open of a run that is open", NO, desk -> desk.open(1, 1, 24));
    }

    private static void hands() {
        same("count 2", BAD, desk -> desk.count(2, true));
        same("count -1", BAD, desk -> desk.count(-1, false));
        same("done of hand 4", BAD, desk -> desk.done(4));
        same("done at rest", NO, desk -> desk.done(1));
        same("ways of hand 4", BAD, desk -> desk.ways(4));
        same("ways at rest", NO, desk -> desk.ways(1));
        same("way of group 5", BAD, desk -> desk.way(0, 0, 5));
        same("way at rest", NO, desk -> desk.way(1, 0, 0));
        same("a third way", NONE, desk -> desk.way(0, 2, 0));
        same("distance of hand 4", BAD, desk -> desk.distance(4));
        same("distance of a small one", NO, desk -> desk.distance(2));
        same("waits -1", BAD, desk -> desk.waits(1, -1));
        same("waits of a full one", NO, desk -> desk.waits(0, 0));
        same("waits no more", NONE, desk -> desk.waits(1, 1));
        same("helps -1", BAD, desk -> desk.helps(1, -1));
        same("helps of a full one", NO, desk -> desk.helps(0, 0));
        same("helps no more", NONE, desk -> desk.helps(1, 34));
        same("without of sort 34", BAD, desk -> desk.without(0, 34));
        same("without at rest", NO, desk -> desk.without(1, 3));
        same("without one not held", NO, desk -> desk.without(0, 3));
        same("more of sort -1", BAD, desk -> desk.more(0, -1));
        same("more at rest", NO, desk -> desk.more(1, 3));
        same("more of one not held", NO, desk -> desk.more(0, 3));
        same("best of hand 4", BAD, desk -> desk.best(4));
        same("best at rest", NO, desk -> desk.best(1));
        same("lack of row 4", BAD, desk -> desk.lack(0, 4, 0, 0));
        same("lack of 5 groups", BAD, desk -> desk.lack(0, 0, 5, 0));
        same("lack of 2 pairs", BAD, desk -> desk.lack(0, 0, 0, 2));
        same("odds of 3", BAD, desk -> desk.odds(1, 3));
        same("odds of 0", BAD, desk -> desk.odds(1, 0));
        same("odds of a full one", NO, desk -> desk.odds(0, 1));
        same("unseen of hand 4", BAD, desk -> desk.unseen(4));
        same("alike of hand 4", BAD, desk -> desk.alike(0, 4));
    }

    private static void worth() {
        same("rule of condition 10", BAD, desk -> desk.rule(10, 1, -1));
        same("rule of condition -1", BAD, desk -> desk.rule(-1, 1, -1));
        same("rule of 1001", BAD, desk -> desk.rule(5, 1001, -1));
        same("rule of -1", BAD, desk -> desk.rule(5, -1, -1));
        same("rule that puts out 10", BAD, desk -> desk.rule(5, 1, 10));
        same("rule that puts out -2", BAD, desk -> desk.rule(5, 1, -2));
        same("worth of hand 4", BAD, desk -> desk.worth(4));
        same("worth at rest", NO, desk -> desk.worth(1));
        same("by of hand 4", BAD, desk -> desk.by(4));
        same("by at rest", NO, desk -> desk.by(1));
        same("holds of condition 10", BAD, desk -> desk.holds(0, 10));
        same("holds at rest", NO, desk -> desk.holds(1, 0));
    }

    /** Calls that tell and change nothing. */
    private static void asking() {
        same("told", 34, desk -> desk.told(0, 1));
        same("copy of none", 0, desk -> desk.copy(0, 4, 0, 0, 0));
        same("read of none", 0, desk -> desk.read(3, 0, 0, 0));
        same("done", 1, desk -> desk.done(0));
        same("ways", 2, desk -> desk.ways(0));
        same("way", 109, desk -> desk.way(0, 1, 4));
        same("distance", 0, desk -> desk.distance(0));
        same("distance at rest", 0, desk -> desk.distance(1));
        same("waits", 32, desk -> desk.waits(1, 0));
        same("helps", 32, desk -> desk.helps(1, 0));
        same("without", 0, desk -> desk.without(0, 33));
        same("more", 2, desk -> desk.more(0, 33));
        same("best", 0, desk -> desk.best(0));
        same("lack", 0, desk -> desk.lack(0, 0, 3, 0));
        same("odds of 1", 2, desk -> desk.odds(1, 1));
        same("odds of 2", ready().odds(1, 2), desk -> desk.odds(1, 2));
        same("unseen", 136 - 14 - 7 - 2, desk -> desk.unseen(0));
        same("alike", 0, desk -> desk.alike(0, 1));
        same("alike itself", 1, desk -> desk.alike(3, 3));
        same("worth", 53, desk -> desk.worth(0));
        same("by", 0, desk -> desk.by(0));
        same("holds", 1, desk -> desk.holds(0, 7));
    }

    private static void drawOfNoWall() {
        due.sentence("BAD; NO: it is FULL; NONE: THE WALL is empty.");
        TileDesk desk = new TileDesk();
        for (int sort = 0; sort < 33; sort++) {
            Due.throwAway(desk, 1, sort, sort, sort, sort);
        }
        Due.lay(desk, 2, 333);
        desk.seed(9);
        due.is("draw", desk.draw(0), NONE);
        due.is("its size", desk.about(0, 0), 0);
        due.is("cleared", desk.clear(2), 4);
        due.is("draw", desk.draw(0), 33);
        TileDesk other = new TileDesk();
        other.seed(9);
        other.draw(3);
        desk.deal(5);
        other.deal(5);
        due.is("the seed after a deal", desk.draw(0), other.draw(0));
    }

    private static void ruleOfTwenty() {
        due.sentence("what it PUTS OUT (-1: none). FULL: 20.");
        TileDesk desk = Due.holding(HELD[0]);
        for (int n = 0; n < 20; n++) {
            desk.rule(5, n, -1);
        }
        due.is("worth", desk.worth(0), 190);
        due.is("a rule more", desk.rule(2, 1000, 5), FULL);
        due.is("worth", desk.worth(0), 190);
        due.is("rules", desk.clearRules(), 20);
    }
}
