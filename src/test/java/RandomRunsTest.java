import java.util.Random;

/** Runs of 512 calls from fixed seeds, each answer held against that of SlowHouse. */
public final class RandomRunsTest {
    private static final int[] ODD = {-1, 0, 1, 2, 5, 7, 8, 9, 15, 16, 31, 32, 99, 100, 255, 256, 364, 365, 400, 401, 416,
        417, 500, 501, 900, 901, 999, 1000, 3000, 3001, 9999, 10000, Integer.MAX_VALUE, Integer.MIN_VALUE};

    private final Random random;
    private final NewsreelHouse fast = new NewsreelHouse();
    private final SlowHouse slow = new SlowHouse();
    private final StringBuilder told = new StringBuilder();
    private final int theme;
    private int wrong = 0;

    private RandomRunsTest(long seed) {
        random = new Random(seed);
        theme = (int) (seed % 8);
    }

    private int upTo(int most) {
        return random.nextInt(most + 1);
    }

    /** Mostly a number of a range, now and then any other one. */
    private int number(int least, int most) {
        if (random.nextInt(60) == 0) {
            return random.nextBoolean() ? least - 1 : most + 1;
        }
        if (random.nextInt(150) == 0) {
            return ODD[random.nextInt(ODD.length)];
        }
        return least + upTo(most - least);
    }

    private int shot() {
        return number(0, Math.max(0, slow.shots.size() - 1));
    }

    /** Mostly a shot that is AWAY, SENT, .. now, as long as a few draws find one. */
    private int shotThatIs(int state) {
        int shot = shot();
        for (int i = 0; i < 20 && slow.where(shot, slow.now) != state; i++) {
            shot = shot();
        }
        return shot;
    }

    private int story() {
        return number(0, Math.max(0, slow.stories.size() - 1));
    }

    private int rule() {
        return number(0, Math.max(0, slow.rules.size() - 1));
    }

    private int place() {
        return theme % 2 == 0 ? number(0, 3) : number(0, 7);
    }

    private int soon() {
        return theme % 2 == 0 ? number(0, 200) : number(0, 9999);
    }

    private int subject() {
        return theme % 4 < 2 ? number(0, 3) : number(0, 15);
    }

    private int past() {
        return random.nextInt(4) == 0 ? number(0, slow.now) : Math.max(0, slow.now - upTo(60));
    }

    private int day() {
        return random.nextInt(3) == 0 ? number(0, 416) : slow.now / 24;
    }

    private void due(String call, int got, int want) {
        told.append(call).append(" -> ").append(got).append('\n');
        if (got != want) {
            wrong++;
            System.out.println(told + "due is " + want);
        }
    }

    private static String words(String name, Object... values) {
        StringBuilder s = new StringBuilder(name).append('(');
        for (int i = 0; i < values.length; i++) {
            s.append(i == 0 ? "" : ", ").append(values[i]);
        }
        return s.append(')').toString();
    }

    private String blanks() {
        return random.nextInt(8) == 0 ? random.nextInt(3) == 0 ? "  " : " " : "";
    }

    private String text(int depth) {
        int kind = random.nextInt(depth <= 0 ? 1 : 7);
        switch (kind) {
            case 1: return blanks() + "!" + text(depth - 1);
            case 2: return blanks() + "(" + text(depth - 1) + blanks() + ")";
            case 3: return text(depth - 1) + blanks() + "&" + text(depth - 1);
            case 4: return text(depth - 1) + blanks() + "|" + text(depth - 1);
            default:
                int n = random.nextInt(4) == 0 ? upTo(9999) : random.nextInt(3) == 0 ? upTo(600) : upTo(4);
                return blanks() + "splfouxk".charAt(random.nextInt(8)) + blanks() + "<=>".charAt(random.nextInt(3)) + blanks()
                        + n + blanks();
        }
    }

    private String spoiled(String whole) {
        StringBuilder s = new StringBuilder(whole);
        int times = random.nextInt(3) == 0 ? 1 + upTo(1) : 0;
        for (int i = 0; i < times && s.length() > 0; i++) {
            int at = random.nextInt(s.length());
            switch (random.nextInt(4)) {
                case 0: s.deleteCharAt(at); break;
                case 1: s.setLength(at); break;
                case 2: s.insert(at, "()!&|<=> 0123456789splfouxkz".charAt(random.nextInt(28))); break;
                default: s.setCharAt(at, (char) (1 + random.nextInt(255))); break;
            }
        }
        return s.toString();
    }

    private void feedText() {
        int rule = rule();
        String whole = spoiled(text(random.nextInt(5)));
        if (random.nextInt(20) == 0) {
            whole = "(((((((((((((((((((((((((!!!!!!!!".substring(random.nextInt(30)) + whole;
        }
        if (random.nextInt(3) == 0 && rule >= 0 && rule < slow.rules.size() && !slow.rules.get(rule).text.isEmpty()) {
            whole = (random.nextBoolean() ? "&" : "|") + whole;
        }
        for (int i = 0; i < whole.length() && calls > 0; i += 8) {
            long bytes = 0;
            for (int k = 0; k < 8 && i + k < whole.length(); k++) {
                bytes |= (long) whole.charAt(i + k) << 8 * k;
            }
            due(words("feed", rule, bytes), fast.feed(rule, bytes), slow.feed(rule, bytes));
            calls--;
        }
        due(words("fault", rule), fast.fault(rule), slow.fault(rule));
    }

    private int calls = 512;

    private void wayCall() {
        switch (random.nextInt(6)) {
            case 0: case 1: case 2: {
                int a = place(), b = place(), f = soon(), e = number(1, theme % 2 == 0 ? 40 : 500);
                int t = number(1, theme % 2 == 0 ? 20 : 500), l = number(0, theme % 2 == 0 ? 10 : 200);
                due(words("way", a, b, f, e, t, l), fast.way(a, b, f, e, t, l), slow.way(a, b, f, e, t, l));
                break;
            }
            case 3: {
                int w = random.nextInt(3) == 0 ? number(0, 24) : 99;
                due(words("shut", w), fast.shut(w), slow.shut(w));
                break;
            }
            case 4: {
                int a = place(), h = soon(), b = place();
                boolean w = random.nextBoolean();
                due(words("arrival", a, h, b, w), fast.arrival(a, h, b, w), slow.arrival(a, h, b, w));
                break;
            }
            default: {
                int n = random.nextInt(5) == 0 ? number(1, 500) : number(1, 30);
                due(words("pass", n), fast.pass(n), slow.pass(n));
                break;
            }
        }
    }

    private void shotCall() {
        int s = shot();
        boolean w = random.nextBoolean();
        switch (random.nextInt(12)) {
            case 0: case 1: {
                int p = place(), h = past(), f = number(1, 400), u = subject(), k = number(0, 2);
                int m = random.nextInt(3) == 0 ? number(0, 255) : 1 << upTo(7) & 255;
                due(words("shot", p, h, f, u, m, k), fast.shot(p, h, f, u, m, k), slow.shot(p, h, f, u, m, k));
                break;
            }
            case 2: {
                int what = number(0, 5);
                due(words("about", s, what), fast.about(s, what), slow.about(s, what));
                break;
            }
            case 3: case 4:
                s = shotThatIs(1);
                due(words("send", s), fast.send(s), slow.send(s));
                break;
            case 5: due(words("expected", s, w), fast.expected(s, w), slow.expected(s, w)); break;
            case 6:
                s = shotThatIs(2);
                due(words("come", s), fast.come(s), slow.come(s));
                break;
            case 7:
                if (random.nextInt(4) == 0) {
                    due(words("lose", s), fast.lose(s), slow.lose(s));
                }
                break;
            case 8: {
                int h = past();
                due(words("where", s, h), fast.where(s, h), slow.where(s, h));
                break;
            }
            case 9: due("overdue()", fast.overdue(), slow.overdue()); break;
            case 10: {
                int mark = number(0, 7), places = number(0, 255), from = number(0, 364), to = number(0, 364);
                due(words("fact", mark, places, from, to), fast.fact(mark, places, from, to), slow.fact(mark, places, from, to));
                break;
            }
            default: {
                int p = place(), h = soon(), m = random.nextInt(3) == 0 ? number(0, 255) : 0, i = number(0, 5);
                due(words("lie", s, p, h), fast.lie(s, p, h), slow.lie(s, p, h));
                due(words("find", m, h, i), fast.find(m, h, i), slow.find(m, h, i));
                due(words("find", m, 0, i), fast.find(m, 0, i), slow.find(m, 0, i));
                break;
            }
        }
    }

    private void storyCall() {
        int s = story();
        boolean b = random.nextBoolean();
        switch (random.nextInt(12)) {
            case 0: {
                int u = subject(), p = place(), h = random.nextBoolean() ? past() : soon(), w = number(0, theme < 4 ? 20 : 999);
                due(words("story", u, p, h, w), fast.story(u, p, h, w), slow.story(u, p, h, w));
                break;
            }
            case 1: case 2: case 3: case 4: {
                int t = shot();
                due(words("put", s, t), fast.put(s, t), slow.put(s, t));
                break;
            }
            case 5: {
                int i = number(0, 5);
                if (random.nextInt(3) == 0) {
                    due(words("cut", s, i), fast.cut(s, i), slow.cut(s, i));
                }
                break;
            }
            case 6: due(words("say", s, b), fast.say(s, b), slow.say(s, b)); break;
            case 7:
                b = random.nextInt(4) == 0;
                due(words("must", s, b), fast.must(s, b), slow.must(s, b));
                break;
            case 8: case 9: {
                int what = number(0, 6);
                due(words("of", s, what), fast.of(s, what), slow.of(s, what));
                break;
            }
            case 10: {
                int d = random.nextBoolean() ? number(0, 400) : number(0, 5);
                due(words("age", d), fast.age(d), slow.age(d));
                break;
            }
            default: {
                int k = number(0, 2), v = number(0, 99);
                due(words("cost", s), fast.cost(s), slow.cost(s));
                due(words("rate", k, v), fast.rate(k, v), slow.rate(k, v));
                break;
            }
        }
    }

    private void ruleCall() {
        int s = story(), r = rule(), l = number(0, 4), d = day(), u = subject();
        boolean b = random.nextInt(3) == 0;
        switch (random.nextInt(10)) {
            case 0: due(words("rule", d), fast.rule(d), slow.rule(d)); break;
            case 1: case 2: feedText(); break;
            case 3:
                if (random.nextInt(3) == 0) {
                    due(words("strike", r, d), fast.strike(r, d), slow.strike(r, d));
                }
                break;
            case 4: case 5: due(words("bars", s, l, d), fast.bars(s, l, d), slow.bars(s, l, d)); break;
            case 6: due(words("reserve", u, b), fast.reserve(u, b), slow.reserve(u, b)); break;
            case 7: {
                int lands = random.nextInt(3) == 0 ? number(0, 31) : 31, from = number(0, 20), to = number(0, 416), n = number(1, 3);
                due(words("right", u, lands, from, to, n), fast.right(u, lands, from, to, n), slow.right(u, lands, from, to, n));
                break;
            }
            case 8: {
                int right = number(0, 7);
                due(words("left", right), fast.left(right), slow.left(right));
                break;
            }
            default: due(words("allowed", s, l, d), fast.allowed(s, l, d), slow.allowed(s, l, d)); break;
        }
    }

    private long row() {
        long row = 0;
        int n = random.nextInt(5);
        for (int i = 0; i < n; i++) {
            row |= (1L + (random.nextInt(20) == 0 ? upTo(14) : upTo(Math.max(0, slow.stories.size() - 1)))) << 4 * i;
        }
        return random.nextInt(40) == 0 ? random.nextLong() : row;
    }

    private void reelCall() {
        int l = number(0, 4), d = day(), a = story(), c = story(), u = subject();
        boolean b = random.nextBoolean();
        switch (random.nextInt(9)) {
            case 0: {
                int feet = b ? number(200, 3000) : number(1, 500);
                due(words("length", b, feet), fast.length(b, feet), slow.length(b, feet));
                break;
            }
            case 1: case 2: due(words("apart", a, c, b), fast.apart(a, c, b), slow.apart(a, c, b)); break;
            case 3: due(words("rival", u, b), fast.rival(u, b), slow.rival(u, b)); break;
            case 4: due(words("reel", l, d), fast.reel(l, d), slow.reel(l, d)); break;
            case 5: case 6:
                for (int i = 0; i < 8; i++) {
                    int at = number(0, 7);
                    due(words("reelAt", l, d, at), fast.reelAt(l, d, at), slow.reelAt(l, d, at));
                    calls--;
                }
                break;
            case 7: {
                for (int i = 0; i < 4; i++) {
                    long row = row();
                    due(words("judge", l, d, row), fast.judge(l, d, row), slow.judge(l, d, row));
                }
                break;
            }
            default: due(words("show", l, d), fast.show(l, d), slow.show(l, d)); break;
        }
    }

    private void crewCall() {
        int p = place(), h = soon();
        switch (random.nextInt(5)) {
            case 0: {
                int m = number(0, 3);
                due(words("man", m, p, h), fast.man(m, p, h), slow.man(m, p, h));
                break;
            }
            case 1: case 2: {
                int w = number(1, random.nextBoolean() ? 5 : 999);
                int hour = h >= 0 && h < 9999 && random.nextBoolean() ? Math.min(9999, h + upTo(60)) : h;
                due(words("event", p, hour, w), fast.event(p, hour, w), slow.event(p, hour, w));
                break;
            }
            default:
                due("cover()", fast.cover(), slow.cover());
                int e = number(0, 7);
                due(words("covered", e), fast.covered(e), slow.covered(e));
                break;
        }
    }

    private void hallCall() {
        switch (random.nextInt(6)) {
            case 0: {
                int from = number(0, 8), to = random.nextBoolean() ? number(from, Math.max(from, Math.min(8, from + 2))) : number(0, 8);
                int l = number(0, 4), t = number(1, random.nextBoolean() ? 20 : 9999);
                due(words("hall", l, from, to, t), fast.hall(l, from, to, t), slow.hall(l, from, to, t));
                break;
            }
            case 1: {
                int w = number(0, 8), v = random.nextInt(3) == 0 ? number(0, 100) : 50 * upTo(2);
                due(words("part", w, v), fast.part(w, v), slow.part(w, v));
                break;
            }
            case 2: {
                int n = random.nextBoolean() ? number(0, 2) : number(0, 8);
                due(words("prints", n), fast.prints(n), slow.prints(n));
                break;
            }
            case 3: due("run()", fast.run(), slow.run()); break;
            case 4:
                for (int i = 0; i < 8; i++) {
                    int hall = number(0, 7);
                    due(words("week", hall), fast.week(hall), slow.week(hall));
                    calls--;
                }
                break;
            default: {
                int what = number(0, 7);
                due(words("count", what), fast.count(what), slow.count(what));
                break;
            }
        }
    }

    /** What most calls of a run are about: of themes 5, 6, 7 reels, men, halls. */
    private int nextPart() {
        boolean any = theme < 5 || calls > 330 || random.nextInt(3) == 0;
        int part = random.nextInt(100);
        if (any) {
            return part;
        }
        switch (theme) {
            case 5: return part < 30 ? 40 : part < 50 ? 60 : 75;
            case 6: return part < 30 ? 5 : 88;
            default: return 95;
        }
    }

    private void putCall(int story, int shot) {
        due(words("put", story, shot), fast.put(story, shot), slow.put(story, shot));
        calls--;
    }

    /** Stories that are ready, some of them by rights, so that there is something to show. */
    private void fillShelves() {
        for (int i = 0; i < 40; i++) {
            int h = past(), f = 30 + upTo(170), m = random.nextInt(4) == 0 ? 1 << upTo(7) : 0, k = 1 + upTo(1);
            due(words("shot", 0, h, f, 1, m, k), fast.shot(0, h, f, 1, m, k), slow.shot(0, h, f, 1, m, k));
        }
        for (int i = 0; i < 4 + upTo(4); i++) {
            int u = upTo(3), w = random.nextInt(3) == 0 ? upTo(999) : upTo(4);
            due(words("story", u, 0, slow.now, w), fast.story(u, 0, slow.now, w), slow.story(u, 0, slow.now, w));
        }
        for (int i = 0; i < slow.stories.size(); i++) {
            for (int k = random.nextInt(12) == 0 ? 9 : 1 + upTo(1); k > 0; k--) {
                putCall(i, upTo(39));
            }
        }
        for (int i = 0; i < 3; i++) {
            int u = upTo(3), n = 1 + upTo(2);
            due(words("reserve", u, true), fast.reserve(u, true), slow.reserve(u, true));
            due(words("right", u, 31, 0, 416, n), fast.right(u, 31, 0, 416, n), slow.right(u, 31, 0, 416, n));
        }
        calls -= 60;
    }

    private void go() {
        if (theme == 5 || theme == 1) {
            fillShelves();
        }
        while (calls > 0 && wrong == 0) {
            calls--;
            int part = nextPart();
            if (part < 10) wayCall();
            else if (part < 30) shotCall();
            else if (part < 55) storyCall();
            else if (part < 72) ruleCall();
            else if (part < 84) reelCall();
            else if (part < 91) crewCall();
            else hallCall();
        }
    }

    public static void main(String[] args) {
        int from = args.length > 0 ? Integer.parseInt(args[0]) : 0;
        int to = args.length > 1 ? Integer.parseInt(args[1]) : 96;
        int bad = 0;
        for (int seed = from; seed < to && bad < 3; seed++) {
            RandomRunsTest test = new RandomRunsTest(seed);
            test.go();
            if (test.wrong > 0) {
                bad++;
                System.out.println("seed " + seed);
            }
        }
        System.out.println(bad == 0 ? "random runs " + from + " to " + to + " are as due" : bad + " random runs are not as due");
        if (bad != 0) {
            System.exit(1);
        }
    }
}
