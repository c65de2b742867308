/** A TileDesk and a SlowDesk, the document once more, of which the same is asked. */
final class Both {
    /** Calls by number, in the order of CALLS. */
    static final String[] CALLS = {
        "rack", "place", "copy", "told", "read", "seed", "take", "draw", "deal", "about", "discard", "open", "clear", "tiles",
        "count", "done", "way", "distance", "waits", "helps", "ways", "without", "more", "best", "lack", "odds", "unseen",
        "alike", "best", "rule", "clearRules", "worth", "by", "holds",
    };
    static final int MOST_CALLS = 512;

    final TileDesk desk = new TileDesk();
    final SlowDesk slow = new SlowDesk();
    private final StringBuilder told = new StringBuilder();
    int made = 0;
    boolean wrong = false;

    /** Asks both; nothing is asked behind a wrong answer, nor behind the last call that is promised. */
    void call(int which, int a, int b, int c, int d, int e) {
        if (wrong || made >= MOST_CALLS) {
            return;
        }
        made++;
        int answer = ofDesk(which, a, b, c, d, e);
        int due = ofSlow(which, a, b, c, d, e);
        told.append(CALLS[which] + "(" + a + "," + b + "," + c + "," + d + "," + e + ") ");
        if (answer != due) {
            wrong = true;
            System.out.println("call " + made + " answered " + answer + ", due is " + due + ", after " + told);
        }
    }

    private int ofDesk(int which, int a, int b, int c, int d, int e) {
        switch (which) {
            case 0: return desk.rack(a, b, c);
            case 1: return desk.place(a, b, c);
            case 2: return desk.copy(a, b, c, d, e);
            case 3: return desk.told(a, b);
            case 4: return desk.read(a, b, c, d);
            case 5: return desk.seed(a);
            case 6: return desk.take(a, b);
            case 7: return desk.draw(a);
            case 8: return desk.deal(a);
            case 9: return desk.about(a, b);
            case 10: return desk.discard(a, b);
            case 11: return desk.open(a, b, c);
            case 12: return desk.clear(a);
            case 13: return desk.tiles(a, b);
            case 14: return desk.count(a, b == 1);
            case 15: return desk.done(a);
            case 16: return desk.way(a, b, c);
            case 17: return desk.distance(a);
            case 18: return desk.waits(a, b);
            case 19: return desk.helps(a, b);
            case 20: return desk.ways(a);
            case 21: return desk.without(a, b);
            case 22: return desk.more(a, b);
            case 23: return desk.best(a);
            case 24: return desk.lack(a, b, c, d);
            case 25: return desk.odds(a, b);
            case 26: return desk.unseen(a);
            case 27: return desk.alike(a, b);
            case 28: return desk.best(a);
            case 29: return desk.rule(a, b, c);
            case 30: return desk.clearRules();
            case 31: return desk.worth(a);
            case 32: return desk.by(a);
            default: return desk.holds(a, b);
        }
    }

    private int ofSlow(int which, int a, int b, int c, int d, int e) {
        switch (which) {
            case 0: return slow.rack(a, b, c);
            case 1: return slow.place(a, b, c);
            case 2: return slow.copy(a, b, c, d, e);
            case 3: return slow.told(a, b);
            case 4: return slow.read(a, b, c, d);
            case 5: return slow.seed(a);
            case 6: return slow.take(a, b);
            case 7: return slow.draw(a);
            case 8: return slow.deal(a);
            case 9: return slow.about(a, b);
            case 10: return slow.discard(a, b);
            case 11: return slow.open(a, b, c);
            case 12: return slow.clear(a);
            case 13: return slow.tiles(a, b);
            case 14: return slow.count(a, b == 1);
            case 15: return slow.done(a);
            case 16: return slow.way(a, b, c);
            case 17: return slow.distance(a);
            case 18: return slow.waits(a, b);
            case 19: return slow.helps(a, b);
            case 20: return slow.ways(a);
            case 21: return slow.without(a, b);
            case 22: return slow.more(a, b);
            case 23: return slow.best(a);
            case 24: return slow.lack(a, b, c, d);
            case 25: return slow.odds(a, b);
            case 26: return slow.unseen(a);
            case 27: return slow.alike(a, b);
            case 28: return slow.best(a);
            case 29: return slow.rule(a, b, c);
            case 30: return slow.clearRules();
            case 31: return slow.worth(a);
            case 32: return slow.by(a);
            default: return slow.holds(a, b);
        }
    }
}
