import java.util.ArrayList;
import java.util.List;

/** What the checks of the document's sentences are made of. */
abstract class Edges {
    static final int MAX = Integer.MAX_VALUE, MIN = Integer.MIN_VALUE;
    static final int UNKNOWN = -1, OUTSIDE = -2, STATE = -3, FULL = -4, NONE = -9;
    static final int EMPTY = Houses.EMPTY, MIXED = Houses.MIXED, CROWDED = Houses.CROWDED;

    interface Call {
        int on(NewsreelHouse x);
    }

    interface CallWith {
        int on(NewsreelHouse x, int value);
    }

    private static final List<List<List<Integer>>> UNTOUCHED = new ArrayList<>();

    private final Sentences sentences;
    private int promise = 0;

    Edges(Sentences sentences) {
        this.sentences = sentences;
        for (int how = EMPTY; how <= CROWDED && UNTOUCHED.size() <= CROWDED; how++) {
            List<List<Integer>> traces = new ArrayList<>();
            for (int part = 0; part < Houses.TRACE_PARTS; part++) {
                traces.add(Houses.trace(Houses.made(how), part));
            }
            UNTOUCHED.add(traces);
        }
    }

    void promise(int number) {
        promise = number;
    }

    void says(String sentence) {
        sentences.says(promise, sentence);
    }

    void due(String what, int got, int want) {
        sentences.due(what, got, want);
    }

    /** A call that answers the refusal in houses made so, and changes nothing there. */
    void refused(String what, int want, Call call, int... hows) {
        for (int how : hows) {
            due(what + " (house " + how + ")", call.on(Houses.made(how)), want);
            changesNothing(what, call, how);
        }
    }

    /** Refused in every house for each of these values: so ahead of STATE and FULL, too. */
    void refusedFor(String what, int want, CallWith call, int... values) {
        for (int value : values) {
            refused(what + " " + value, want, x -> call.on(x, value), EMPTY, MIXED, CROWDED);
        }
    }

    /** As refusedFor, in a house that has what the call names first. */
    void refusedIn(int how, String what, int want, CallWith call, int... values) {
        for (int value : values) {
            refused(what + " " + value, want, x -> call.on(x, value), how);
        }
    }

    /** A question: whatever it answers, nothing is changed. */
    void onlyAsks(String what, Call call) {
        for (int how = EMPTY; how <= CROWDED; how++) {
            changesNothing(what, call, how);
        }
    }

    private void changesNothing(String what, Call call, int how) {
        int changed = 0;
        for (int part = 0; part < Houses.TRACE_PARTS; part++) {
            NewsreelHouse x = Houses.made(how);
            call.on(x);
            if (!Houses.trace(x, part).equals(UNTOUCHED.get(how).get(part))) {
                changed++;
            }
        }
        due(what + " (house " + how + "): parts of the house that it changed", changed, 0);
    }

    /** Answers one by one. */
    void row(String what, CallWith call, NewsreelHouse x, int... wants) {
        for (int i = 0; i < wants.length; i++) {
            due(what + " " + i, call.on(x, i), wants[i]);
        }
    }

    static NewsreelHouse fresh() {
        return new NewsreelHouse();
    }

    static NewsreelHouse at(int hour) {
        return Houses.at(hour);
    }

    static NewsreelHouse mixed() {
        return Houses.made(MIXED);
    }

    static NewsreelHouse crowded() {
        return Houses.made(CROWDED);
    }

    /** Stories 0, 1, .. of subjects 0, 1, .. with one kept shot of so many feet each. */
    static NewsreelHouse withStories(int[] worths, int[] feet) {
        NewsreelHouse x = new NewsreelHouse();
        for (int i = 0; i < worths.length; i++) {
            x.shot(0, 0, feet[i], i, 0, 1);
            x.story(i, 0, 0, worths[i]);
            x.put(i, i);
        }
        return x;
    }

    /** The best reel of land 0 on day 0: its worth, its stories, and nothing behind them. */
    void reelIs(String what, NewsreelHouse x, int worth, int... stories) {
        due(what + ": worth", x.reel(0, 0), worth);
        for (int i = 0; i <= stories.length; i++) {
            due(what + ": story at " + i, x.reelAt(0, 0, i), i < stories.length ? stories[i] : NONE);
        }
    }

    static int faultOf(String text) {
        NewsreelHouse x = new NewsreelHouse();
        x.rule(0);
        Houses.feedText(x, 0, text);
        return x.fault(0);
    }
}
