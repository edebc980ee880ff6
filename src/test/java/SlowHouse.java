import java.util.ArrayList;
import java.util.List;

/**
 * The document told once more, in the slowest and plainest way, to be held against NewsreelHouse: it
 * looks at every hour, every row, every run. It shares no code and no way of searching with it.
 */
final class SlowHouse {
    static final int UNKNOWN = -1, OUTSIDE = -2, STATE = -3, FULL = -4, NONE = -9;

    static final class Shot {
        int[] about;
        List<int[]> log = new ArrayList<>();
        int best = NONE, worst = NONE;
    }

    static final class Story {
        int subject, place, hour, worth;
        List<Integer> shots = new ArrayList<>();
        boolean said, must;
    }

    static final class Rule {
        int from, struck = -1;
        String text = "";
    }

    int now = 0;
    List<int[]> ways = new ArrayList<>();
    List<Shot> shots = new ArrayList<>();
    int[][] facts = new int[8][];
    List<Story> stories = new ArrayList<>();
    int age = 30;
    int[] rates = {3, 1, 5};
    List<Rule> rules = new ArrayList<>();
    boolean[] reserved = new boolean[16];
    List<int[]> rights = new ArrayList<>();
    int least = 100, most = 900;
    boolean[][] apart = new boolean[8][8];
    boolean[] rivals = new boolean[16];
    int[][] men = new int[4][];
    List<int[]> events = new ArrayList<>();
    List<int[]> halls = new ArrayList<>();
    int[] parts = {100, 100, 100, 100, 100, 100, 100, 100, 100};
    int prints = 1;

    private static boolean bad(int v, int low, int high) {
        return v < low || v > high;
    }

    int pass(int n) {
        if (bad(n, 1, 500)) return OUTSIDE;
        if (now + n > 9999) return FULL;
        return now += n;
    }

    int way(int from, int to, int first, int every, int takes, int late) {
        if (bad(from, 0, 7) || bad(to, 0, 7)) return UNKNOWN;
        if (bad(first, 0, 9999) || bad(every, 1, 500) || bad(takes, 1, 500) || bad(late, 0, 200)) return OUTSIDE;
        if (from == to) return STATE;
        if (ways.size() == 24) return FULL;
        ways.add(new int[] {from, to, first, every, takes, late, 0});
        return ways.size() - 1;
    }

    int shut(int way) {
        if (bad(way, 0, ways.size() - 1)) return UNKNOWN;
        if (ways.get(way)[6] == 1) return STATE;
        ways.get(way)[6] = 1;
        return 1;
    }

    /** Goes through the hours one by one and lets every way leave that does. */
    private int[] walkAll(int from, int hour, boolean worst) {
        int[] there = new int[8];
        java.util.Arrays.fill(there, Integer.MAX_VALUE);
        there[from] = hour;
        for (int h = hour; h <= 9999; h++) {
            for (int[] w : ways) {
                boolean leaves = w[6] == 0 && h >= w[2] && (h - w[2]) % w[3] == 0;
                if (leaves && there[w[0]] <= h) {
                    there[w[1]] = Math.min(there[w[1]], h + w[4] + (worst ? w[5] : 0));
                }
            }
        }
        return there;
    }

    private int walk(int from, int hour, int to, boolean worst) {
        int there = walkAll(from, hour, worst)[to];
        return there == Integer.MAX_VALUE ? NONE : there;
    }

    int arrival(int from, int hour, int to, boolean worst) {
        if (bad(from, 0, 7) || bad(to, 0, 7)) return UNKNOWN;
        if (bad(hour, 0, 9999)) return OUTSIDE;
        return walk(from, hour, to, worst);
    }

    int shot(int place, int hour, int feet, int subject, int marks, int kind) {
        if (bad(place, 0, 7)) return UNKNOWN;
        if (bad(hour, 0, now) || bad(feet, 1, 900) || bad(subject, 0, 15) || bad(marks, 0, 255) || bad(kind, 0, 2)) return OUTSIDE;
        if (shots.size() == 40) return FULL;
        Shot s = new Shot();
        s.about = new int[] {place, hour, feet, subject, marks, kind};
        s.log.add(new int[] {now, kind == 0 ? 1 : 3});
        shots.add(s);
        return shots.size() - 1;
    }

    private boolean noShot(int shot) {
        return bad(shot, 0, shots.size() - 1);
    }

    private int whereNow(Shot s) {
        return s.log.get(s.log.size() - 1)[1];
    }

    int about(int shot, int what) {
        if (noShot(shot)) return UNKNOWN;
        return bad(what, 0, 5) ? OUTSIDE : shots.get(shot).about[what];
    }

    int send(int shot) {
        if (noShot(shot)) return UNKNOWN;
        Shot s = shots.get(shot);
        if (whereNow(s) != 1) return STATE;
        int best = walk(s.about[0], now, 0, false);
        int worst = walk(s.about[0], now, 0, true);
        if (best == NONE || worst == NONE) return STATE;
        s.best = best;
        s.worst = worst;
        s.log.add(new int[] {now, 2});
        return best;
    }

    int expected(int shot, boolean worst) {
        if (noShot(shot)) return UNKNOWN;
        return worst ? shots.get(shot).worst : shots.get(shot).best;
    }

    int come(int shot) {
        if (noShot(shot)) return UNKNOWN;
        Shot s = shots.get(shot);
        if (whereNow(s) != 2 || now < s.best) return STATE;
        s.log.add(new int[] {now, 3});
        return now - s.best;
    }

    int lose(int shot) {
        if (noShot(shot)) return UNKNOWN;
        Shot s = shots.get(shot);
        int was = whereNow(s);
        if (was == 4) return STATE;
        s.log.add(new int[] {now, 4});
        return was;
    }

    int where(int shot, int hour) {
        if (noShot(shot)) return UNKNOWN;
        if (bad(hour, 0, now)) return OUTSIDE;
        int state = 0;
        for (int[] entry : shots.get(shot).log) {
            if (entry[0] <= hour) state = entry[1];
        }
        return state;
    }

    int overdue() {
        int n = 0;
        for (Shot s : shots) {
            if (whereNow(s) == 2 && s.worst < now) n++;
        }
        return n;
    }

    int fact(int mark, int places, int from, int to) {
        if (bad(mark, 0, 7)) return UNKNOWN;
        if (bad(places, 0, 255) || bad(from, 0, 364) || bad(to, 0, 364)) return OUTSIDE;
        facts[mark] = new int[] {places, from, to};
        return 1;
    }

    private boolean markCan(int mark, int place, int hour) {
        if (facts[mark] == null) return true;
        int asked = hour / 24 % 365;
        boolean day = false;
        for (int d = facts[mark][1]; ; d = (d + 1) % 365) {
            if (d == asked) day = true;
            if (d == facts[mark][2]) break;
        }
        return day && (facts[mark][0] & 1 << place) != 0;
    }

    private int firstLie(Shot s, int place, int hour) {
        for (int m = 0; m < 8; m++) {
            if ((s.about[4] & 1 << m) != 0 && !markCan(m, place, hour)) return m;
        }
        return NONE;
    }

    int lie(int shot, int place, int hour) {
        if (noShot(shot) || bad(place, 0, 7)) return UNKNOWN;
        if (bad(hour, 0, 9999)) return OUTSIDE;
        return firstLie(shots.get(shot), place, hour);
    }

    int find(int marks, int from, int i) {
        if (bad(marks, 0, 255) || bad(from, 0, 9999)) return OUTSIDE;
        List<Integer> cards = new ArrayList<>();
        for (int k = 0; k < shots.size(); k++) {
            Shot s = shots.get(k);
            if (whereNow(s) == 3 && (s.about[4] | marks) == s.about[4] && s.about[1] >= from) cards.add(k);
        }
        return bad(i, 0, cards.size() - 1) ? NONE : cards.get(i);
    }

    int story(int subject, int place, int hour, int worth) {
        if (bad(place, 0, 7)) return UNKNOWN;
        if (bad(subject, 0, 15) || bad(hour, 0, 9999) || bad(worth, 0, 999)) return OUTSIDE;
        if (stories.size() == 8) return FULL;
        Story s = new Story();
        s.subject = subject;
        s.place = place;
        s.hour = hour;
        s.worth = worth;
        stories.add(s);
        return stories.size() - 1;
    }

    private boolean noStory(int story) {
        return bad(story, 0, stories.size() - 1);
    }

    int put(int story, int shot) {
        if (noStory(story) || noShot(shot)) return UNKNOWN;
        List<Integer> row = stories.get(story).shots;
        if (whereNow(shots.get(shot)) != 3 || row.contains(shot)) return STATE;
        if (row.size() == 6) return FULL;
        row.add(shot);
        return row.size();
    }

    int cut(int story, int i) {
        if (noStory(story)) return UNKNOWN;
        List<Integer> row = stories.get(story).shots;
        return bad(i, 0, row.size() - 1) ? OUTSIDE : row.remove(i);
    }

    int say(int story, boolean said) {
        if (noStory(story)) return UNKNOWN;
        int was = stories.get(story).said ? 1 : 0;
        stories.get(story).said = said;
        return was;
    }

    int must(int story, boolean must) {
        if (noStory(story)) return UNKNOWN;
        int was = stories.get(story).must ? 1 : 0;
        stories.get(story).must = must;
        return was;
    }

    int of(int story, int what) {
        if (noStory(story)) return UNKNOWN;
        if (bad(what, 0, 6)) return OUTSIDE;
        Story s = stories.get(story);
        int feet = 0, disorder = NONE, old = 0, wrong = 0, lent = 0;
        boolean ready = !s.shots.isEmpty();
        Shot ahead = null;
        for (int i = 0; i < s.shots.size(); i++) {
            Shot t = shots.get(s.shots.get(i));
            feet += t.about[2];
            if (ahead != null && disorder == NONE
                    && (t.about[1] < ahead.about[1] || t.about[1] / 24 != ahead.about[1] / 24)) {
                disorder = i;
            }
            if (s.hour / 24 > t.about[1] / 24 + age) old++;
            if (firstLie(t, s.place, s.hour) != NONE) wrong++;
            if (t.about[5] == 2) lent++;
            if (whereNow(t) != 3) ready = false;
            ahead = t;
        }
        return new int[] {s.shots.size(), feet, disorder, old, wrong, lent, ready ? 1 : 0}[what];
    }

    int age(int days) {
        if (bad(days, 0, 400)) return OUTSIDE;
        int was = age;
        age = days;
        return was;
    }

    int cost(int story) {
        if (noStory(story)) return UNKNOWN;
        int sum = 0;
        for (int n : stories.get(story).shots) {
            sum += shots.get(n).about[2] * rates[shots.get(n).about[5]];
        }
        return sum;
    }

    int rate(int kind, int v) {
        if (bad(kind, 0, 2) || bad(v, 0, 99)) return OUTSIDE;
        int was = rates[kind];
        rates[kind] = v;
        return was;
    }

    int rule(int day) {
        if (bad(day, 0, 416)) return OUTSIDE;
        if (rules.size() == 6) return FULL;
        Rule r = new Rule();
        r.from = day;
        rules.add(r);
        return rules.size() - 1;
    }

    private boolean noRule(int rule) {
        return bad(rule, 0, rules.size() - 1);
    }

    int feed(int rule, long bytes) {
        if (noRule(rule)) return UNKNOWN;
        StringBuilder more = new StringBuilder();
        for (int i = 0; i < 8; i++) {
            int b = (int) (bytes >> 8 * i) & 0xff;
            if (b == 0) break;
            more.append((char) b);
        }
        Rule r = rules.get(rule);
        if (r.text.length() + more.length() > 80) return FULL;
        r.text += more;
        return r.text.length();
    }

    // A text is a rule or not: told by splitting, with no thought of faults.

    private String text;
    private int at;
    private int[] letters = new int[8];

    private char next() {
        while (at < text.length() && text.charAt(at) == ' ') at++;
        return at < text.length() ? text.charAt(at) : 0;
    }

    /** 1 holds, 0 does not, -1: it is no such text. */
    private int any() {
        int v = all();
        while (v >= 0 && next() == '|') {
            at++;
            int w = all();
            v = w < 0 ? -1 : v | w;
        }
        return v;
    }

    private int all() {
        int v = one();
        while (v >= 0 && next() == '&') {
            at++;
            int w = one();
            v = w < 0 ? -1 : v & w;
        }
        return v;
    }

    private int one() {
        char c = next();
        at++;
        if (c == '!') {
            int v = one();
            return v < 0 ? -1 : 1 - v;
        }
        if (c == '(') {
            int v = any();
            if (v < 0 || next() != ')') return -1;
            at++;
            return v;
        }
        int letter = "splfouxk".indexOf(c);
        if (c == 0 || letter < 0) return -1;
        char sign = next();
        at++;
        next();
        int start = at;
        while (at < text.length() && at < start + 4 && Character.isDigit(text.charAt(at))) at++;
        if (at == start) return -1;
        int number = Integer.parseInt(text.substring(start, at));
        if (sign == '<') return letters[letter] < number ? 1 : 0;
        if (sign == '=') return letters[letter] == number ? 1 : 0;
        if (sign == '>') return letters[letter] > number ? 1 : 0;
        return -1;
    }

    private int value(String whole) {
        text = whole;
        at = 0;
        int v = any();
        return v >= 0 && next() == 0 && at >= text.length() ? v : -1;
    }

    private boolean couldGoOn(String begun) {
        StringBuilder closing = new StringBuilder();
        for (int k = 0; k <= begun.length(); k++) {
            for (String end : new String[] {"", "1", "=1", "s=1"}) {
                if (value(begun + end + closing) >= 0) return true;
            }
            closing.append(')');
        }
        return false;
    }

    private int faultOf(String whole) {
        if (value(whole) >= 0) return NONE;
        for (int i = 0; i < whole.length(); i++) {
            if (!couldGoOn(whole.substring(0, i + 1))) return i;
        }
        return whole.length();
    }

    int fault(int rule) {
        return noRule(rule) ? UNKNOWN : faultOf(rules.get(rule).text);
    }

    int strike(int rule, int day) {
        if (noRule(rule)) return UNKNOWN;
        if (bad(day, 0, 416)) return OUTSIDE;
        if (rules.get(rule).struck >= 0) return STATE;
        rules.get(rule).struck = day;
        return 1;
    }

    private int firstBar(int story, int land, int day) {
        Story s = stories.get(story);
        int old = of(story, 3);
        letters = new int[] {s.subject, s.place, land, of(story, 1), old, s.said ? 0 : old, of(story, 4), of(story, 5)};
        for (int i = 0; i < rules.size(); i++) {
            Rule r = rules.get(i);
            boolean inForce = r.from <= day && !(r.struck >= 0 && r.struck <= day);
            if (inForce && value(r.text) == 1) return i;
        }
        return NONE;
    }

    int bars(int story, int land, int day) {
        if (noStory(story) || bad(land, 0, 4)) return UNKNOWN;
        if (bad(day, 0, 416)) return OUTSIDE;
        return firstBar(story, land, day);
    }

    int reserve(int subject, boolean r) {
        if (bad(subject, 0, 15)) return OUTSIDE;
        int was = reserved[subject] ? 1 : 0;
        reserved[subject] = r;
        return was;
    }

    int right(int subject, int lands, int from, int to, int showings) {
        if (bad(subject, 0, 15) || bad(lands, 0, 31) || bad(from, 0, 416) || bad(to, from, 416) || bad(showings, 1, 99)) return OUTSIDE;
        if (rights.size() == 8) return FULL;
        rights.add(new int[] {subject, lands, from, to, showings});
        return rights.size() - 1;
    }

    int left(int right) {
        return bad(right, 0, rights.size() - 1) ? UNKNOWN : rights.get(right)[4];
    }

    private int[] rightTo(int subject, int land, int day) {
        for (int[] r : rights) {
            if (r[0] == subject && (r[1] & 1 << land) != 0 && r[2] <= day && day <= r[3] && r[4] > 0) return r;
        }
        return null;
    }

    private boolean may(int story, int land, int day) {
        int subject = stories.get(story).subject;
        return firstBar(story, land, day) == NONE && (!reserved[subject] || rightTo(subject, land, day) != null);
    }

    int allowed(int story, int land, int day) {
        if (noStory(story) || bad(land, 0, 4)) return UNKNOWN;
        if (bad(day, 0, 416)) return OUTSIDE;
        return may(story, land, day) ? 1 : 0;
    }

    int length(boolean upper, int feet) {
        if (bad(feet, 1, 3000)) return OUTSIDE;
        if (upper ? least > feet : feet > most) return STATE;
        int was = upper ? most : least;
        if (upper) most = feet;
        else least = feet;
        return was;
    }

    int apart(int a, int b, boolean on) {
        if (noStory(a) || noStory(b)) return UNKNOWN;
        if (a == b) return STATE;
        int was = apart[a][b] ? 1 : 0;
        apart[a][b] = on;
        apart[b][a] = on;
        return was;
    }

    int rival(int subject, boolean has) {
        if (bad(subject, 0, 15)) return OUTSIDE;
        int was = rivals[subject] ? 1 : 0;
        rivals[subject] = has;
        return was;
    }

    private boolean[] ready, may;
    private int[] feetOf;
    private List<Integer> bestRow;
    private int bestWorth;

    private void look(int land, int day) {
        int n = stories.size();
        ready = new boolean[n];
        may = new boolean[n];
        feetOf = new int[n];
        for (int i = 0; i < n; i++) {
            ready[i] = of(i, 6) == 1;
            may[i] = may(i, land, day);
            feetOf[i] = of(i, 1);
        }
    }

    private int lack(List<Integer> row) {
        for (int i = 0; i < row.size(); i++) {
            if (noStory(row.get(i)) || row.indexOf(row.get(i)) != i) return 1;
        }
        for (int s : row) if (!ready[s]) return 2;
        for (int s : row) if (!may[s]) return 3;
        for (int i = 1; i < row.size(); i++) if (apart[row.get(i - 1)][row.get(i)]) return 4;
        int feet = 0;
        for (int s : row) feet += feetOf[s];
        if (bad(feet, least, most)) return 5;
        for (int s = 0; s < stories.size(); s++) {
            if (stories.get(s).must && ready[s] && may[s] && !row.contains(s)) return 6;
        }
        return 0;
    }

    /** Rows in their order, so that of like ones the first is met first. */
    private void tryRows(List<Integer> row) {
        if (lack(row) == 0) {
            int worth = 0;
            for (int s : row) worth += rivals[stories.get(s).subject] ? stories.get(s).worth / 2 : stories.get(s).worth;
            if (bestRow == null || worth > bestWorth) {
                bestRow = new ArrayList<>(row);
                bestWorth = worth;
            }
        }
        for (int s = 0; s < stories.size(); s++) {
            if (!row.contains(s) && ready[s] && may[s]) {
                row.add(s);
                tryRows(row);
                row.remove(row.size() - 1);
            }
        }
    }

    private void best(int land, int day) {
        look(land, day);
        bestRow = null;
        bestWorth = NONE;
        tryRows(new ArrayList<>());
    }

    int reel(int land, int day) {
        if (bad(land, 0, 4)) return UNKNOWN;
        if (bad(day, 0, 416)) return OUTSIDE;
        best(land, day);
        return bestWorth;
    }

    int reelAt(int land, int day, int i) {
        if (bad(land, 0, 4)) return UNKNOWN;
        if (bad(day, 0, 416)) return OUTSIDE;
        best(land, day);
        return bestRow == null || bad(i, 0, bestRow.size() - 1) ? NONE : bestRow.get(i);
    }

    int judge(int land, int day, long row) {
        if (bad(land, 0, 4)) return UNKNOWN;
        if (bad(day, 0, 416)) return OUTSIDE;
        look(land, day);
        List<Integer> told = new ArrayList<>();
        String figures = Long.toHexString(row);
        for (int i = figures.length() - 1; i >= 0 && figures.charAt(i) != '0'; i--) {
            told.add(Character.digit(figures.charAt(i), 16) - 1);
        }
        return lack(told);
    }

    int show(int land, int day) {
        if (bad(land, 0, 4)) return UNKNOWN;
        if (bad(day, 0, 416)) return OUTSIDE;
        best(land, day);
        if (bestRow == null) return STATE;
        int taken = 0;
        for (int s : bestRow) {
            int subject = stories.get(s).subject;
            int[] r = reserved[subject] ? rightTo(subject, land, day) : null;
            if (r != null) {
                r[4]--;
                taken++;
            }
        }
        return taken;
    }

    int man(int man, int place, int hour) {
        if (bad(man, 0, 3) || bad(place, 0, 7)) return UNKNOWN;
        if (bad(hour, 0, 9999)) return OUTSIDE;
        men[man] = new int[] {place, hour};
        return 1;
    }

    int event(int place, int hour, int worth) {
        if (bad(place, 0, 7)) return UNKNOWN;
        if (bad(hour, 0, 9999) || bad(worth, 1, 999)) return OUTSIDE;
        if (events.size() == 8) return FULL;
        events.add(new int[] {place, hour, worth});
        return events.size() - 1;
    }

    private boolean[][] reach;
    private boolean[] coverable;

    private void reachFrom(int spot, int[] from) {
        int[] there = walkAll(from[0], from[1], true);
        for (int e = 0; e < events.size(); e++) reach[spot][e] = there[events.get(e)[0]] <= events.get(e)[1];
    }

    /** Every man takes any event that he can go to next, one behind the other, then the next man. */
    private void tryMen(int man, int at, int done) {
        coverable[done] = true;
        if (man == 4) return;
        tryMan(man + 1, done);
        for (int e = 0; e < events.size(); e++) {
            if ((done & 1 << e) == 0 && reach[at][e]) tryMen(man, 4 + e, done | 1 << e);
        }
    }

    private boolean[][] seen;

    private void tryMan(int man, int done) {
        coverable[done] = true;
        if (man == 4 || seen[man][done]) return;
        seen[man][done] = true;
        if (men[man] == null) tryMan(man + 1, done);
        else tryMen(man, man, done);
    }

    private int[] covers() {
        int n = events.size();
        reach = new boolean[4 + n][n];
        for (int m = 0; m < 4; m++) if (men[m] != null) reachFrom(m, men[m]);
        for (int e = 0; e < n; e++) reachFrom(4 + e, events.get(e));
        coverable = new boolean[1 << n];
        seen = new boolean[4][1 << n];
        tryMan(0, 0);
        int best = 0, all = (1 << n) - 1, some = 0;
        for (int round = 0; round < 2; round++) {
            for (int set = 0; set < 1 << n; set++) {
                int worth = 0;
                for (int e = 0; e < n; e++) if ((set & 1 << e) != 0) worth += events.get(e)[2];
                if (coverable[set] && round == 0) best = Math.max(best, worth);
                if (coverable[set] && round == 1 && worth == best) {
                    all &= set;
                    some |= set;
                }
            }
        }
        return new int[] {best, all, some};
    }

    int cover() {
        return covers()[0];
    }

    int covered(int event) {
        if (bad(event, 0, events.size() - 1)) return UNKNOWN;
        int[] c = covers();
        return (c[1] >> event & 1) + (c[2] >> event & 1);
    }

    int hall(int land, int from, int to, int take) {
        if (bad(land, 0, 4)) return UNKNOWN;
        if (bad(from, 0, 8) || bad(to, from, 8) || bad(take, 1, 9999)) return OUTSIDE;
        if (halls.size() == 8) return FULL;
        halls.add(new int[] {from, to, take});
        return halls.size() - 1;
    }

    int part(int week, int v) {
        if (bad(week, 0, 8) || bad(v, 0, 100)) return OUTSIDE;
        int was = parts[week];
        parts[week] = v;
        return was;
    }

    int prints(int n) {
        if (bad(n, 0, 8)) return OUTSIDE;
        int was = prints;
        prints = n;
        return was;
    }

    private int bestEarned;
    private int[] bestWeeks, weeks, used;

    private int hope(int hall) {
        int sum = 0;
        for (int h = hall; h < halls.size(); h++) {
            int top = 0;
            for (int w = halls.get(h)[0]; w <= halls.get(h)[1]; w++) top = Math.max(top, halls.get(h)[2] * parts[w] / 100);
            sum += top;
        }
        return sum;
    }

    /** Weeks in their order, none last, so that of like runs the first is met first. */
    private void tryWeeks(int hall, int earned) {
        if (earned + hope(hall) <= bestEarned) return;
        if (hall == halls.size()) {
            bestEarned = earned;
            bestWeeks = weeks.clone();
            return;
        }
        int[] h = halls.get(hall);
        for (int w = h[0]; w <= h[1]; w++) {
            if (used[w] < prints) {
                used[w]++;
                weeks[hall] = w;
                tryWeeks(hall + 1, earned + h[2] * parts[w] / 100);
                used[w]--;
            }
        }
        weeks[hall] = NONE;
        tryWeeks(hall + 1, earned);
    }

    private void bestRun() {
        bestEarned = -1;
        weeks = new int[halls.size()];
        used = new int[9];
        tryWeeks(0, 0);
    }

    int run() {
        bestRun();
        return bestEarned;
    }

    int week(int hall) {
        if (bad(hall, 0, halls.size() - 1)) return UNKNOWN;
        bestRun();
        return bestWeeks[hall];
    }

    int count(int what) {
        int in = 0;
        for (Shot s : shots) if (whereNow(s) == 3) in++;
        return bad(what, 0, 7) ? OUTSIDE
                : new int[] {shots.size(), in, stories.size(), rules.size(), rights.size(), events.size(), halls.size(), now}[what];
    }
}
