/** One method for each promise of the document: ordinary inputs, the edges that it names, wrong inputs. */
public final class PromisesTest {
    private static final int MAX = Integer.MAX_VALUE, MIN = Integer.MIN_VALUE;
    private static final int UNKNOWN = -1, OUTSIDE = -2, STATE = -3, FULL = -4, NONE = -9;
    private static int wrong = 0;

    private static void due(String what, int got, int want) {
        if (got != want) {
            wrong++;
            System.out.println(what + ": answered " + got + ", due is " + want);
        }
    }

    private static NewsreelHouse at(int hour) {
        NewsreelHouse x = new NewsreelHouse();
        int left = hour;
        while (left > 0) {
            int n = Math.min(500, left);
            x.pass(n);
            left -= n;
        }
        return x;
    }

    private static int feedText(NewsreelHouse x, int rule, String text) {
        int answer = 0;
        for (int i = 0; i < text.length(); i += 8) {
            long bytes = 0;
            for (int k = 0; k < 8 && i + k < text.length(); k++) {
                bytes |= (long) (text.charAt(i + k) & 255) << 8 * k;
            }
            answer = x.feed(rule, bytes);
        }
        return answer;
    }

    private static int faultOf(String text) {
        NewsreelHouse x = new NewsreelHouse();
        x.rule(0);
        feedText(x, 0, text);
        return x.fault(0);
    }

    private static String times(int n, String part) {
        StringBuilder s = new StringBuilder();
        for (int i = 0; i < n; i++) {
            s.append(part);
        }
        return s.toString();
    }

    /** Stories 0, 1, .. of subjects 0, 1, .. with one kept shot of so many feet each. */
    private static NewsreelHouse withStories(int[] worths, int[] feet) {
        NewsreelHouse x = new NewsreelHouse();
        for (int i = 0; i < worths.length; i++) {
            x.shot(0, 0, feet[i], i, 0, 1);
            x.story(i, 0, 0, worths[i]);
            x.put(i, i);
        }
        return x;
    }

    private static void reelIs(String what, NewsreelHouse x, int worth, int... row) {
        due(what + " worth", x.reel(0, 0), worth);
        for (int i = 0; i < 9; i++) {
            due(what + " at " + i, x.reelAt(0, 0, i), i < row.length ? row[i] : NONE);
        }
    }

    private static void p01() {
        NewsreelHouse x = new NewsreelHouse();
        for (int what = 0; what <= 7; what++) {
            due("1 count " + what, x.count(what), 0);
        }
        due("1 shot", x.about(0, 0), UNKNOWN);
        due("1 overdue", x.overdue(), 0);
        due("1 cover", x.cover(), 0);
        due("1 run", x.run(), 0);
        due("1 reel", x.reel(0, 0), NONE);
        NewsreelHouse y = new NewsreelHouse();
        x.pass(5);
        due("1 another object", y.count(7), 0);
    }

    private static void p02() {
        NewsreelHouse x = new NewsreelHouse();
        due("2 least", x.pass(1), 1);
        due("2 most", x.pass(500), 501);
        due("2 none", x.pass(0), OUTSIDE);
        due("2 too many", x.pass(501), OUTSIDE);
        due("2 max", x.pass(MAX), OUTSIDE);
        due("2 min", x.pass(MIN), OUTSIDE);
        x = at(9500);
        due("2 above", x.pass(500), FULL);
        due("2 unchanged", x.count(7), 9500);
        due("2 last", x.pass(499), 9999);
        due("2 full", x.pass(1), FULL);
        due("2 outside ahead of full", x.pass(0), OUTSIDE);
    }

    private static void p03() {
        NewsreelHouse x = new NewsreelHouse();
        due("3 first", x.way(0, 7, 0, 1, 1, 0), 0);
        due("3 greatest", x.way(7, 0, 9999, 500, 500, 200), 1);
        due("3 from", x.way(8, 0, 0, 1, 1, 0), UNKNOWN);
        due("3 from below", x.way(-1, 0, 0, 1, 1, 0), UNKNOWN);
        due("3 to", x.way(0, 8, 0, 1, 1, 0), UNKNOWN);
        due("3 to below", x.way(0, -1, 99999, 1, 1, 0), UNKNOWN);
        due("3 first above", x.way(0, 1, 10000, 1, 1, 0), OUTSIDE);
        due("3 first below", x.way(0, 1, -1, 1, 1, 0), OUTSIDE);
        due("3 every 0", x.way(0, 1, 0, 0, 1, 0), OUTSIDE);
        due("3 every 501", x.way(0, 1, 0, 501, 1, 0), OUTSIDE);
        due("3 takes 0", x.way(0, 1, 0, 1, 0, 0), OUTSIDE);
        due("3 takes 501", x.way(0, 1, 0, 1, 501, 0), OUTSIDE);
        due("3 late -1", x.way(0, 1, 0, 1, 1, -1), OUTSIDE);
        due("3 late 201", x.way(0, 1, 0, 1, 1, 201), OUTSIDE);
        due("3 one place", x.way(3, 3, 0, 1, 1, 0), STATE);
        due("3 outside ahead of state", x.way(3, 3, 0, 0, 1, 0), OUTSIDE);
        for (int i = 2; i < 24; i++) {
            due("3 number", x.way(1, 2, 0, 1, 1, 0), i);
        }
        due("3 full", x.way(1, 2, 0, 1, 1, 0), FULL);
        due("3 no way 24", x.shut(24), UNKNOWN);
        due("3 state ahead of full", x.way(1, 1, 0, 1, 1, 0), STATE);
    }

    private static void p04() {
        NewsreelHouse x = new NewsreelHouse();
        due("4 none", x.shut(0), UNKNOWN);
        x.way(1, 0, 0, 10, 2, 0);
        x.way(1, 0, 0, 10, 5, 0);
        due("4 below", x.shut(-1), UNKNOWN);
        due("4 above", x.shut(2), UNKNOWN);
        due("4 ahead", x.arrival(1, 0, 0, false), 2);
        due("4 shut", x.shut(0), 1);
        due("4 behind", x.arrival(1, 0, 0, false), 5);
        due("4 twice", x.shut(0), STATE);
        due("4 other", x.shut(1), 1);
        due("4 no way", x.arrival(1, 0, 0, false), NONE);
        for (int i = 2; i < 24; i++) {
            x.way(2, 3, 0, 1, 1, 0);
        }
        due("4 shut ways fill too", x.way(2, 3, 0, 1, 1, 0), FULL);
    }

    private static void p05() {
        NewsreelHouse x = new NewsreelHouse();
        due("5 at once", x.arrival(4, 77, 4, true), 77);
        due("5 none", x.arrival(4, 0, 5, false), NONE);
        due("5 from", x.arrival(8, 0, 0, false), UNKNOWN);
        due("5 to", x.arrival(0, 0, -1, false), UNKNOWN);
        due("5 unknown ahead of outside", x.arrival(0, -1, 8, false), UNKNOWN);
        due("5 hour above", x.arrival(0, 10000, 0, false), OUTSIDE);
        due("5 hour below", x.arrival(0, -1, 0, false), OUTSIDE);
        x.way(1, 2, 5, 10, 3, 4);
        due("5 first", x.arrival(1, 0, 2, false), 8);
        due("5 just there", x.arrival(1, 5, 2, false), 8);
        due("5 next", x.arrival(1, 6, 2, false), 18);
        due("5 worst", x.arrival(1, 6, 2, true), 22);
        due("5 last", x.arrival(1, 9995, 2, true), 10002);
        due("5 too late", x.arrival(1, 9996, 2, false), NONE);
        due("5 no way back", x.arrival(2, 0, 1, false), NONE);
        x.way(2, 3, 8, 20, 1, 0);
        due("5 two ways, no wait", x.arrival(1, 0, 3, false), 9);
        due("5 two ways, worst waits", x.arrival(1, 0, 3, true), 29);
        x.way(6, 5, 9999, 500, 500, 200);
        due("5 a way that leaves at 9999", x.arrival(6, 9999, 5, true), 10699);
        due("5 and is waited for", x.arrival(6, 0, 5, false), 10499);
        x.way(2, 4, 0, 1, 1, 0);
        due("5 no way leaves behind 9999", x.arrival(1, 9995, 4, false), 9999);
        due("5 no way at worst", x.arrival(1, 9995, 4, true), NONE);
        chainOfWays();
    }

    private static void chainOfWays() {
        NewsreelHouse x = new NewsreelHouse();
        for (int p = 7; p > 0; p--) {
            x.way(p - 1, p, 0, 7, 2, 6);
        }
        due("5 seven ways at best", x.arrival(0, 1, 7, false), 51);
        due("5 seven ways at worst", x.arrival(0, 1, 7, true), 7 + 6 * 14 + 8);
        x.way(0, 7, 0, 500, 48, 0);
        due("5 one way that leaves too early", x.arrival(0, 1, 7, false), 51);
        due("5 one way that is faster", x.arrival(0, 0, 7, false), 44);
    }

    private static void p06() {
        NewsreelHouse x = at(10);
        due("6 first", x.shot(0, 0, 1, 0, 0, 0), 0);
        due("6 greatest", x.shot(7, 10, 900, 15, 255, 2), 1);
        due("6 place", x.shot(8, 0, 1, 0, 0, 0), UNKNOWN);
        due("6 place below", x.shot(-1, 11, 1, 0, 0, 0), UNKNOWN);
        due("6 hour", x.shot(0, 11, 1, 0, 0, 0), OUTSIDE);
        due("6 hour below", x.shot(0, -1, 1, 0, 0, 0), OUTSIDE);
        due("6 feet 0", x.shot(0, 0, 0, 0, 0, 0), OUTSIDE);
        due("6 feet 901", x.shot(0, 0, 901, 0, 0, 0), OUTSIDE);
        due("6 subject 16", x.shot(0, 0, 1, 16, 0, 0), OUTSIDE);
        due("6 subject -1", x.shot(0, 0, 1, -1, 0, 0), OUTSIDE);
        due("6 marks 256", x.shot(0, 0, 1, 0, 256, 0), OUTSIDE);
        due("6 marks -1", x.shot(0, 0, 1, 0, -1, 0), OUTSIDE);
        due("6 kind 3", x.shot(0, 0, 1, 0, 0, 3), OUTSIDE);
        due("6 kind -1", x.shot(0, 0, 1, 0, 0, -1), OUTSIDE);
        due("6 own is away", x.where(0, 10), 1);
        due("6 lent is in", x.where(1, 10), 3);
        due("6 told now, not when taken", x.where(0, 9), 0);
        for (int i = 2; i < 40; i++) {
            due("6 number", x.shot(0, 0, 1, 0, 0, 1), i);
        }
        due("6 full", x.shot(0, 0, 1, 0, 0, 1), FULL);
        due("6 no shot 40", x.about(40, 0), UNKNOWN);
        due("6 outside ahead of full", x.shot(0, 0, 0, 0, 0, 1), OUTSIDE);
    }

    private static void p07() {
        NewsreelHouse x = at(30);
        x.shot(1, 2, 3, 4, 5, 0);
        x.shot(7, 30, 900, 15, 255, 2);
        int[] second = {7, 30, 900, 15, 255, 2};
        int[] first = {1, 2, 3, 4, 5, 0};
        for (int what = 0; what < 6; what++) {
            due("7 first " + what, x.about(0, what), first[what]);
            due("7 second " + what, x.about(1, what), second[what]);
        }
        due("7 above", x.about(2, 0), UNKNOWN);
        due("7 below", x.about(-1, 9), UNKNOWN);
        due("7 what 6", x.about(0, 6), OUTSIDE);
        due("7 what -1", x.about(0, -1), OUTSIDE);
    }

    private static void p08() {
        NewsreelHouse x = at(3);
        x.way(1, 0, 0, 10, 5, 2);
        x.shot(1, 0, 9, 0, 0, 0);
        x.shot(2, 0, 9, 0, 0, 0);
        x.shot(0, 0, 9, 0, 0, 0);
        x.shot(1, 0, 9, 0, 0, 1);
        due("8 from the hour on", x.send(0), 15);
        due("8 twice", x.send(0), STATE);
        due("8 no ways", x.send(1), STATE);
        due("8 still away", x.where(1, 3), 1);
        due("8 from the house", x.send(2), 3);
        due("8 kept", x.send(3), STATE);
        due("8 above", x.send(4), UNKNOWN);
        due("8 below", x.send(-1), UNKNOWN);
        x.shot(1, 0, 9, 0, 0, 0);
        x.lose(4);
        due("8 lost", x.send(4), STATE);
        x = at(9900);
        x.way(1, 2, 9900, 500, 50, 100);
        x.way(2, 0, 9960, 500, 50, 0);
        x.shot(1, 0, 9, 0, 0, 0);
        due("8 there is a way at best", x.arrival(1, 9900, 0, false), 10010);
        due("8 but none at worst", x.send(0), STATE);
        due("8 not sent", x.expected(0, false), NONE);
    }

    private static void p09() {
        NewsreelHouse x = new NewsreelHouse();
        x.way(1, 0, 2, 10, 5, 20);
        x.shot(1, 0, 9, 0, 0, 0);
        x.shot(1, 0, 9, 0, 0, 2);
        due("9 not sent", x.expected(0, true), NONE);
        x.send(0);
        due("9 best", x.expected(0, false), 7);
        due("9 worst", x.expected(0, true), 27);
        x.shut(0);
        due("9 stays, with the way shut", x.expected(0, true), 27);
        x.pass(9);
        x.come(0);
        due("9 stays when it came", x.expected(0, false), 7);
        x.lose(0);
        due("9 stays when it is lost", x.expected(0, false), 7);
        due("9 lent", x.expected(1, false), NONE);
        due("9 above", x.expected(2, false), UNKNOWN);
        due("9 below", x.expected(-1, false), UNKNOWN);
    }

    private static void p10() {
        NewsreelHouse x = new NewsreelHouse();
        x.way(1, 0, 2, 10, 5, 20);
        for (int i = 0; i < 3; i++) {
            x.shot(1, 0, 9, 0, 0, 0);
        }
        x.shot(1, 0, 9, 0, 0, 1);
        due("10 away", x.come(0), STATE);
        x.send(0);
        x.send(1);
        x.send(2);
        x.pass(6);
        due("10 still to come", x.come(0), STATE);
        x.pass(1);
        due("10 at that hour", x.come(0), 0);
        due("10 in", x.where(0, 7), 3);
        due("10 twice", x.come(0), STATE);
        x.pass(30);
        due("10 late", x.come(1), 30);
        x.lose(2);
        due("10 lost", x.come(2), STATE);
        due("10 kept", x.come(3), STATE);
        due("10 above", x.come(4), UNKNOWN);
        due("10 below", x.come(-1), UNKNOWN);
    }

    private static void p11() {
        NewsreelHouse x = new NewsreelHouse();
        x.shot(0, 0, 9, 0, 0, 0);
        x.shot(0, 0, 9, 0, 0, 0);
        x.shot(0, 0, 9, 0, 0, 2);
        x.send(1);
        due("11 away", x.lose(0), 1);
        due("11 sent", x.lose(1), 2);
        due("11 in", x.lose(2), 3);
        due("11 lost", x.lose(2), STATE);
        due("11 where", x.where(2, 0), 4);
        due("11 none in", x.count(1), 0);
        due("11 above", x.lose(3), UNKNOWN);
        due("11 below", x.lose(-1), UNKNOWN);
    }

    private static void p12() {
        NewsreelHouse x = at(5);
        x.way(1, 0, 0, 10, 5, 2);
        x.shot(1, 0, 9, 0, 0, 0);
        x.pass(5);
        x.send(0);
        x.pass(10);
        x.come(0);
        x.pass(10);
        x.lose(0);
        x.pass(1);
        int[][] asked = {{0, 0}, {4, 0}, {5, 1}, {9, 1}, {10, 2}, {19, 2}, {20, 3}, {29, 3}, {30, 4}, {31, 4}};
        for (int[] a : asked) {
            due("12 at " + a[0], x.where(0, a[0]), a[1]);
        }
        due("12 to be", x.where(0, 32), OUTSIDE);
        due("12 below", x.where(0, -1), OUTSIDE);
        due("12 unknown first", x.where(1, -1), UNKNOWN);
        x.shot(0, 0, 9, 0, 0, 0);
        x.send(1);
        x.come(1);
        due("12 what comes last counts", x.where(1, 31), 3);
        x.lose(1);
        due("12 lost in the same hour", x.where(1, 31), 4);
        due("12 not told", x.where(1, 30), 0);
    }

    private static void p13() {
        NewsreelHouse x = new NewsreelHouse();
        x.way(1, 0, 0, 10, 5, 2);
        for (int i = 0; i < 4; i++) {
            x.shot(1, 0, 9, 0, 0, 0);
        }
        x.send(0);
        x.send(1);
        x.send(2);
        x.pass(7);
        due("13 at that hour", x.overdue(), 0);
        x.pass(1);
        due("13 behind it", x.overdue(), 3);
        x.come(0);
        due("13 come", x.overdue(), 2);
        x.lose(1);
        due("13 lost", x.overdue(), 1);
    }

    private static void p14() {
        NewsreelHouse x = new NewsreelHouse();
        due("14 least", x.fact(0, 0, 0, 0), 1);
        due("14 greatest", x.fact(7, 255, 364, 364), 1);
        due("14 round", x.fact(7, 255, 364, 0), 1);
        due("14 mark 8", x.fact(8, 256, 0, 0), UNKNOWN);
        due("14 mark -1", x.fact(-1, 0, 0, 0), UNKNOWN);
        due("14 places 256", x.fact(0, 256, 0, 0), OUTSIDE);
        due("14 places -1", x.fact(0, -1, 0, 0), OUTSIDE);
        due("14 from 365", x.fact(0, 0, 365, 0), OUTSIDE);
        due("14 from -1", x.fact(0, 0, -1, 0), OUTSIDE);
        due("14 to 365", x.fact(0, 0, 0, 365), OUTSIDE);
        due("14 to -1", x.fact(0, 0, 0, -1), OUTSIDE);
        x.shot(0, 0, 9, 0, 1, 1);
        x.fact(0, 255, 0, 364);
        x.fact(0, 256, 9, 9);
        due("14 refused changes nothing", x.lie(0, 0, 0), NONE);
        x.fact(0, 2, 0, 364);
        due("14 a new fact in place of the old", x.lie(0, 0, 0), 0);
    }

    private static void p15() {
        NewsreelHouse x = new NewsreelHouse();
        x.shot(0, 0, 9, 0, 0b10101000, 1);
        x.shot(0, 0, 9, 0, 0, 1);
        due("15 no facts", x.lie(0, 7, 9999), NONE);
        x.shot(0, 0, 9, 0, 255, 1);
        for (int place = 0; place < 8; place++) {
            due("15 no facts, first day", x.lie(2, place, 0), NONE);
            due("15 no facts, last day", x.lie(2, place, 364 * 24 + 23), NONE);
        }
        x.fact(0, 0, 0, 0);
        due("15 not its mark", x.lie(0, 0, 0), NONE);
        x.fact(5, 0b1001, 10, 20);
        due("15 day ahead", x.lie(0, 3, 239), 5);
        due("15 first day", x.lie(0, 3, 240), NONE);
        due("15 last day", x.lie(0, 3, 20 * 24 + 23), NONE);
        due("15 day behind", x.lie(0, 3, 21 * 24), 5);
        due("15 next year", x.lie(0, 0, (365 + 10) * 24), NONE);
        due("15 place", x.lie(0, 1, 240), 5);
        x.fact(7, 255, 20, 10);
        due("15 first of two", x.lie(0, 1, 11 * 24), 5);
        due("15 second alone", x.lie(0, 3, 11 * 24), 7);
        due("15 round, last day", x.lie(0, 3, 10 * 24), NONE);
        due("15 round, first day", x.lie(0, 3, 20 * 24), NONE);
        x.fact(3, 255, 12, 12);
        due("15 one day", x.lie(0, 3, 12 * 24), 7);
        due("15 not that day", x.lie(0, 3, 13 * 24), 3);
        due("15 no marks", x.lie(1, 5, 0), NONE);
        due("15 shot", x.lie(3, 0, 0), UNKNOWN);
        due("15 place 8", x.lie(0, 8, -1), UNKNOWN);
        due("15 place -1", x.lie(0, -1, 0), UNKNOWN);
        due("15 hour above", x.lie(0, 0, 10000), OUTSIDE);
        due("15 hour below", x.lie(0, 0, -1), OUTSIDE);
    }

    private static void p16() {
        NewsreelHouse x = at(100);
        x.shot(0, 10, 9, 0, 3, 1);
        x.shot(0, 20, 9, 0, 3, 0);
        x.shot(0, 30, 9, 0, 7, 2);
        x.shot(0, 40, 9, 0, 1, 2);
        due("16 all", x.find(0, 0, 2), 3);
        due("16 both marks", x.find(3, 0, 1), 2);
        due("16 no third", x.find(3, 0, 2), NONE);
        due("16 from", x.find(1, 10, 0), 0);
        due("16 later", x.find(1, 11, 0), 2);
        due("16 last", x.find(1, 31, 0), 3);
        due("16 too late", x.find(1, 41, 0), NONE);
        due("16 below", x.find(0, 0, -1), NONE);
        due("16 min", x.find(0, 0, MIN), NONE);
        due("16 max", x.find(0, 0, MAX), NONE);
        due("16 marks 256", x.find(256, 0, 0), OUTSIDE);
        due("16 marks -1", x.find(-1, 0, 0), OUTSIDE);
        due("16 from 10000", x.find(0, 10000, 0), OUTSIDE);
        due("16 from 9999", x.find(0, 9999, 0), NONE);
        due("16 from -1", x.find(0, -1, -1), OUTSIDE);
        x.lose(0);
        due("16 lost", x.find(3, 0, 0), 2);
        x.send(1);
        x.come(1);
        due("16 came", x.find(3, 0, 0), 1);
    }

    private static void p17() {
        NewsreelHouse x = new NewsreelHouse();
        due("17 least", x.story(0, 0, 0, 0), 0);
        due("17 greatest, an hour to be", x.story(15, 7, 9999, 999), 1);
        due("17 place 8", x.story(16, 8, 0, 0), UNKNOWN);
        due("17 place -1", x.story(0, -1, 0, 0), UNKNOWN);
        due("17 subject 16", x.story(16, 0, 0, 0), OUTSIDE);
        due("17 subject -1", x.story(-1, 0, 0, 0), OUTSIDE);
        due("17 hour above", x.story(0, 0, 10000, 0), OUTSIDE);
        due("17 hour below", x.story(0, 0, -1, 0), OUTSIDE);
        due("17 worth 1000", x.story(0, 0, 0, 1000), OUTSIDE);
        due("17 worth -1", x.story(0, 0, 0, -1), OUTSIDE);
        for (int i = 2; i < 8; i++) {
            due("17 number", x.story(0, 0, 0, 0), i);
        }
        due("17 full", x.story(0, 0, 0, 0), FULL);
        due("17 no story 8", x.of(8, 0), UNKNOWN);
        due("17 outside ahead of full", x.story(0, 0, 0, -1), OUTSIDE);
    }

    private static void p18() {
        NewsreelHouse x = new NewsreelHouse();
        for (int i = 0; i < 8; i++) {
            x.shot(0, 0, 9, 0, 0, i == 7 ? 0 : 1);
        }
        due("18 no story", x.put(0, 0), UNKNOWN);
        x.story(0, 0, 0, 0);
        x.story(0, 0, 0, 0);
        due("18 no shot", x.put(0, 8), UNKNOWN);
        due("18 shot below", x.put(0, -1), UNKNOWN);
        due("18 story below", x.put(-1, 0), UNKNOWN);
        due("18 away", x.put(0, 7), STATE);
        for (int i = 0; i < 6; i++) {
            due("18 how many", x.put(0, i), i + 1);
        }
        due("18 in it, ahead of full", x.put(0, 5), STATE);
        due("18 in it as the first", x.put(0, 0), STATE);
        due("18 away, ahead of full", x.put(0, 7), STATE);
        due("18 full", x.put(0, 6), FULL);
        due("18 in another one too", x.put(1, 0), 1);
        due("18 the first of six is cut", x.cut(0, 0), 0);
        due("18 and comes behind", x.put(0, 0), 6);
        due("18 as the last", x.cut(0, 5), 0);
        x.put(0, 6);
        x.lose(1);
        due("18 lost", x.put(1, 1), STATE);
        due("18 lost ones stay", x.of(0, 0), 6);
    }

    private static void p19() {
        NewsreelHouse x = new NewsreelHouse();
        x.story(0, 0, 0, 0);
        due("19 nothing there", x.cut(0, 0), OUTSIDE);
        for (int i = 0; i < 4; i++) {
            x.shot(0, 0, 10 + i, 0, 0, 1);
            x.put(0, i);
        }
        due("19 story", x.cut(1, 9), UNKNOWN);
        due("19 above", x.cut(0, 4), OUTSIDE);
        due("19 below", x.cut(0, -1), OUTSIDE);
        due("19 second", x.cut(0, 1), 1);
        due("19 the next one is there", x.cut(0, 1), 2);
        due("19 feet", x.of(0, 1), 23);
        due("19 behind again", x.put(0, 1), 3);
        due("19 last", x.cut(0, 2), 1);
        due("19 first", x.cut(0, 0), 0);
        due("19 left", x.cut(0, 0), 3);
        due("19 empty", x.cut(0, 0), OUTSIDE);
    }

    private static void p20() {
        NewsreelHouse x = new NewsreelHouse();
        due("20 unknown", x.say(0, true), UNKNOWN);
        x.story(0, 0, 0, 0);
        x.story(0, 0, 0, 0);
        due("20 not at first", x.say(0, true), 0);
        due("20 said", x.say(0, true), 1);
        due("20 said no more", x.say(0, false), 1);
        due("20 was not", x.say(0, false), 0);
        due("20 the other", x.say(1, false), 0);
        due("20 below", x.say(-1, true), UNKNOWN);
    }

    private static void p21() {
        NewsreelHouse x = withStories(new int[] {5, 50}, new int[] {800, 800});
        reelIs("21 free", x, 50, 1);
        due("21 not at first", x.must(0, true), 0);
        reelIs("21 must", x, 5, 0);
        due("21 must", x.must(0, true), 1);
        due("21 must no more", x.must(0, false), 1);
        reelIs("21 free again", x, 50, 1);
        due("21 above", x.must(2, true), UNKNOWN);
        due("21 below", x.must(-1, true), UNKNOWN);
    }

    private static void p22() {
        NewsreelHouse x = at(2400);
        x.story(0, 2, 2400, 0);
        int[] none = {0, 0, NONE, 0, 0, 0, 0};
        for (int what = 0; what < 7; what++) {
            due("22 empty " + what, x.of(0, what), none[what]);
        }
        x.shot(1, 69 * 24, 100, 0, 1, 2);
        x.shot(1, 70 * 24, 30, 0, 2, 1);
        x.shot(1, 70 * 24 + 23, 4, 0, 3, 2);
        x.shot(1, 70 * 24 + 22, 5, 0, 0, 1);
        x.fact(1, 4, 100, 100);
        x.fact(0, 8, 100, 100);
        x.put(0, 1);
        x.put(0, 2);
        due("22 in order", x.of(0, 2), NONE);
        due("22 thirty days are not old", x.of(0, 3), 0);
        x.put(0, 3);
        due("22 hour below", x.of(0, 2), 2);
        x.put(0, 0);
        int[] want = {4, 139, 2, 1, 2, 2, 1};
        for (int what = 0; what < 7; what++) {
            due("22 of " + what, x.of(0, what), want[what]);
        }
        x.cut(0, 2);
        due("22 another day", x.of(0, 2), 2);
        x.lose(2);
        due("22 not ready", x.of(0, 6), 0);
        due("22 feet of lost ones too", x.of(0, 1), 134);
        x.story(0, 2, 2400, 0);
        x.put(1, 0);
        due("22 a false one at the head", x.of(1, 4), 1);
        due("22 a lent one at the head", x.of(1, 5), 1);
        x.put(1, 1);
        due("22 disorder at once", x.of(1, 2), 1);
        due("22 story", x.of(2, 9), UNKNOWN);
        due("22 below", x.of(-1, 0), UNKNOWN);
        due("22 what 7", x.of(0, 7), OUTSIDE);
        due("22 what -1", x.of(0, -1), OUTSIDE);
        sameHourIsInOrder();
    }

    private static void sameHourIsInOrder() {
        NewsreelHouse x = at(50);
        x.story(0, 0, 0, 0);
        for (int hour : new int[] {24, 24, 47, 48}) {
            int shot = x.shot(0, hour, 1, 0, 0, 1);
            x.put(0, shot);
        }
        due("22 later day", x.of(0, 2), 3);
        due("22 shots behind the story are not old", x.of(0, 3), 0);
    }

    private static void p23() {
        NewsreelHouse x = at(24);
        due("23 at first", x.age(0), 30);
        due("23 least", x.age(400), 0);
        due("23 greatest", x.age(1), 400);
        due("23 above", x.age(401), OUTSIDE);
        due("23 below", x.age(-1), OUTSIDE);
        x.shot(0, 23, 1, 0, 0, 1);
        x.story(0, 0, 48, 0);
        x.put(0, 0);
        due("23 more than one day", x.of(0, 3), 1);
        due("23 refused changed nothing", x.age(2), 1);
        due("23 two days are not more than two", x.of(0, 3), 0);
    }

    private static void p24() {
        NewsreelHouse x = new NewsreelHouse();
        due("24 unknown", x.cost(0), UNKNOWN);
        x.story(0, 0, 0, 0);
        due("24 nothing", x.cost(0), 0);
        x.shot(0, 0, 100, 0, 0, 0);
        x.shot(0, 0, 10, 0, 0, 1);
        x.shot(0, 0, 1, 0, 0, 2);
        x.send(0);
        x.come(0);
        for (int i = 0; i < 3; i++) {
            x.put(0, i);
        }
        due("24 all kinds", x.cost(0), 315);
        x.lose(0);
        due("24 lost ones too", x.cost(0), 315);
        due("24 below", x.cost(-1), UNKNOWN);
    }

    private static void p25() {
        NewsreelHouse x = new NewsreelHouse();
        due("25 own", x.rate(0, 99), 3);
        due("25 kept", x.rate(1, 0), 1);
        due("25 lent", x.rate(2, 7), 5);
        due("25 now", x.rate(0, 1), 99);
        due("25 now 0", x.rate(1, 2), 0);
        due("25 kind 3", x.rate(3, 0), OUTSIDE);
        due("25 kind -1", x.rate(-1, 0), OUTSIDE);
        due("25 rate 100", x.rate(0, 100), OUTSIDE);
        due("25 rate -1", x.rate(0, -1), OUTSIDE);
        due("25 unchanged", x.rate(0, 1), 1);
    }

    private static void p26() {
        NewsreelHouse x = new NewsreelHouse();
        due("26 first", x.rule(0), 0);
        due("26 last day", x.rule(416), 1);
        due("26 above", x.rule(417), OUTSIDE);
        due("26 below", x.rule(-1), OUTSIDE);
        due("26 without bytes", x.feed(0, 0L), 0);
        for (int i = 2; i < 6; i++) {
            due("26 number", x.rule(5), i);
        }
        due("26 full", x.rule(5), FULL);
        due("26 no rule 6", x.fault(6), UNKNOWN);
        due("26 outside ahead of full", x.rule(417), OUTSIDE);
        x.story(3, 0, 0, 0);
        feedText(x, 2, "s=3");
        due("26 ahead of the day", x.bars(0, 0, 4), NONE);
        due("26 from the day on", x.bars(0, 0, 5), 2);
        due("26 to the end", x.bars(0, 0, 416), 2);
    }

    private static void p27() {
        NewsreelHouse x = new NewsreelHouse();
        due("27 unknown", x.feed(0, 1L), UNKNOWN);
        x.rule(0);
        due("27 below", x.feed(-1, 1L), UNKNOWN);
        due("27 nothing", x.feed(0, 0L), 0);
        due("27 up to a byte 0", x.feed(0, 0x3C00333D73L), 3);
        due("27 lowest first", x.fault(0), NONE);
        due("27 byte 0 at once", x.feed(0, 0x7300L), 3);
        for (int i = 1; i <= 9; i++) {
            due("27 all eight", x.feed(0, 0x2020202020202020L), 3 + 8 * i);
        }
        due("27 blanks at the end", x.fault(0), NONE);
        due("27 six do not fit", x.feed(0, 0x202020202020L), FULL);
        due("27 none came", x.feed(0, 0L), 75);
        due("27 five fit", x.feed(0, 0x2020202020L), 80);
        due("27 no more", x.feed(0, 0x20L), FULL);
        due("27 nothing fits", x.feed(0, 0L), 80);
        x.rule(0);
        due("27 bytes above 127", x.feed(1, -1L), 8);
        due("27 are no rule", x.fault(1), 0);
    }

    private static void p28() {
        NewsreelHouse x = new NewsreelHouse();
        due("28 unknown", x.fault(0), UNKNOWN);
        due("28 below", x.fault(-1), UNKNOWN);
        due("28 without bytes", faultOf(""), 0);
        for (String good : new String[] {"s=1", "p<0", "l>9999", "f=12", "o=1", "u=1", "x=1", "k=0001", "!s=1", "!!!s=1", "(s=1)",
            "s=1&p=2", "s=1|p=2&l=3", "!(s=1|!(p=1))", " s = 1 ", " ( s=1 ) & ! p < 2 | ( l > 3 ) ", times(38, "(") + "s=1" + times(38, ")"),
            times(77, "!") + "s=1"}) {
            due("28 " + good, faultOf(good), NONE);
        }
        String[] bad = {" ", "a=1", "S=1", "s", "s=", "s=a", "s=12345", "s=1 2", "s==1", "s<=1", "s=1&", "s=1&&p=1", "s=1|", "(s=1", "s=1)",
            "()", "!", "s!1", "s=1!", "s=1 p=1", "s= 1", "(s=1))", "s=1(", "s=-1", "s\t=1", "1=s", "s=1&)", "(!", times(80, "("),
            times(80, "!"), "(s=1&p=1|l=1)&", "s=1 )"};
        int[] want = {1, 0, 0, 1, 2, 2, 6, 4, 2, 2, 4, 4, 4, 4, 3,
            1, 1, 1, 3, 4, NONE, 5, 3, 2, 1, 0, 4, 2, 80,
            80, 14, 4};
        for (int i = 0; i < bad.length; i++) {
            due("28 " + bad[i], faultOf(bad[i]), want[i]);
        }
        faultThatIsMended();
    }

    private static void faultThatIsMended() {
        NewsreelHouse x = new NewsreelHouse();
        x.story(1, 0, 0, 0);
        x.rule(0);
        feedText(x, 0, "s=1");
        due("28 holds", x.bars(0, 0, 0), 0);
        feedText(x, 0, "&");
        due("28 has a fault", x.fault(0), 4);
        due("28 is not in force", x.bars(0, 0, 0), NONE);
        feedText(x, 0, "p=0");
        due("28 is mended", x.bars(0, 0, 0), 0);
        for (String begun : new String[] {"!", "(((", "((!", "s=1|", "(s=1|p=9)&(!"}) {
            x = new NewsreelHouse();
            x.story(1, 0, 0, 0);
            x.rule(0);
            x.rule(0);
            feedText(x, 0, begun);
            feedText(x, 1, "s=1&(p=0)");
            due("28 the next rule holds behind " + begun, x.bars(0, 0, 0), 1);
            feedText(x, 1, "&s=2");
            due("28 the next rule does not behind " + begun, x.bars(0, 0, 0), NONE);
        }
    }

    private static void p29() {
        NewsreelHouse x = new NewsreelHouse();
        due("29 unknown", x.strike(0, 999), UNKNOWN);
        x.story(0, 0, 0, 0);
        x.rule(10);
        x.rule(10);
        x.rule(0);
        feedText(x, 0, "s=0");
        feedText(x, 1, "s=0");
        due("29 above", x.strike(0, 417), OUTSIDE);
        due("29 below", x.strike(0, -1), OUTSIDE);
        due("29 struck", x.strike(0, 20), 1);
        due("29 it is", x.strike(0, 30), STATE);
        due("29 outside ahead of state", x.strike(0, 417), OUTSIDE);
        due("29 in force", x.bars(0, 0, 10), 0);
        due("29 last day", x.bars(0, 0, 19), 0);
        due("29 struck from", x.bars(0, 0, 20), 1);
        due("29 ahead of its day", x.strike(1, 5), 1);
        due("29 never in force", x.bars(0, 0, 20), NONE);
        due("29 day 0", x.strike(2, 0), 1);
        due("29 day 0 counts", x.strike(2, 0), STATE);
    }

    private static boolean holds(NewsreelHouse x, int rule, String text) {
        x.strike(rule - 1, 0);
        x.rule(0);
        feedText(x, rule, text);
        return x.bars(0, 1, 0) == rule;
    }

    /** A story of subject 5 at place 2, 2 of its 4 shots old, 1 false, 3 lent, 60 feet, in land 1. */
    private static NewsreelHouse barred() {
        NewsreelHouse x = at(1000);
        x.story(5, 2, 960, 0);
        x.shot(2, 0, 10, 0, 0, 1);
        x.shot(2, 1, 20, 0, 1, 2);
        x.shot(2, 950, 25, 0, 0, 2);
        x.shot(2, 951, 5, 0, 0, 2);
        x.fact(0, 1, 0, 364);
        for (int i = 0; i < 4; i++) {
            x.put(0, i);
        }
        return x;
    }

    private static void p30() {
        String[] yes = {"s=5", "p=2", "l=1", "f=60", "o=2", "u=2", "x=1", "k=3", "s<6", "s>4", "f=0060", "!s=4", "!!s=5", "s=1|s=5", "s=5&p=2",
            "s=5|s=1&p=9", "!s=1&p=2", "!(s=5&p=9)", "(s=1|s=5)&p=2", "!(s=1)&!(p=1)", "s=1&p=1|l=1", " s = 5 ", "!!(!s=5|f>59)",
            "s=1|s=2|s=5", "s=5&p=2&l=1", "((s=5))", "(s=1|s=2)|(s=5)", "!(s=1)&(s=5)"};
        String[] no = {"s=4", "s<5", "s>5", "p=1", "l=0", "f<60", "o>2", "u<2", "x=0", "k=2", "!s=5", "s=5&p=1", "(s=5|s=1)&p=9",
            "!(s=5|p=9)", "s=1|s=2", "!s=5|p=9", "!(!(s=1))", "s=5&!p=2", "s=5&(p=1|l=2)", "s=1&s=1|s=5&p=1", "(s=5|p=9)&(s=1)", "(!s=1)&(s=1)", "(s=1|s=5)&(s=1|s=2)"};
        NewsreelHouse x = barred();
        int rule = 0;
        for (String[] texts : new String[][] {yes, no}) {
            for (String text : texts) {
                if (rule == 6) {
                    x = barred();
                    rule = 0;
                }
                due("30 " + text, holds(x, rule, text) ? 1 : 0, texts == yes ? 1 : 0);
                rule++;
            }
        }
        x = barred();
        due("30 no rules", x.bars(0, 0, 0), NONE);
        x.rule(0);
        x.rule(0);
        x.rule(0);
        feedText(x, 1, "o=2&l=1");
        feedText(x, 2, "u=2");
        due("30 first", x.bars(0, 1, 0), 1);
        due("30 in another land", x.bars(0, 2, 416), 2);
        x.say(0, true);
        due("30 said: o is as it was", x.bars(0, 1, 0), 1);
        due("30 said: u is not 2", x.bars(0, 2, 0), NONE);
        feedText(x, 0, "u=0");
        due("30 said: u is 0", x.bars(0, 2, 0), 0);
        due("30 story", x.bars(1, 0, -1), UNKNOWN);
        due("30 land 5", x.bars(0, 5, 417), UNKNOWN);
        due("30 land -1", x.bars(0, -1, 0), UNKNOWN);
        due("30 day above", x.bars(0, 0, 417), OUTSIDE);
        due("30 day below", x.bars(0, 0, -1), OUTSIDE);
    }

    private static void p31() {
        NewsreelHouse x = new NewsreelHouse();
        x.story(3, 0, 0, 0);
        due("31 free at first", x.reserve(3, true), 0);
        due("31 reserved", x.allowed(0, 0, 0), 0);
        due("31 was", x.reserve(3, true), 1);
        due("31 free again", x.reserve(3, false), 1);
        due("31 allowed", x.allowed(0, 0, 0), 1);
        due("31 another one", x.reserve(15, true), 0);
        due("31 not it", x.allowed(0, 0, 0), 1);
        due("31 subject 16", x.reserve(16, true), OUTSIDE);
        due("31 subject -1", x.reserve(-1, true), OUTSIDE);
    }

    private static void p32() {
        NewsreelHouse x = new NewsreelHouse();
        due("32 least", x.right(0, 0, 0, 0, 1), 0);
        due("32 greatest", x.right(15, 31, 416, 416, 99), 1);
        due("32 subject 16", x.right(16, 0, 0, 0, 1), OUTSIDE);
        due("32 subject -1", x.right(-1, 0, 0, 0, 1), OUTSIDE);
        due("32 lands 32", x.right(0, 32, 0, 0, 1), OUTSIDE);
        due("32 lands -1", x.right(0, -1, 0, 0, 1), OUTSIDE);
        due("32 from -1", x.right(0, 0, -1, 0, 1), OUTSIDE);
        due("32 to 417", x.right(0, 0, 0, 417, 1), OUTSIDE);
        due("32 from 417", x.right(0, 0, 417, 417, 1), OUTSIDE);
        due("32 to below from", x.right(0, 0, 5, 4, 1), OUTSIDE);
        due("32 showings 0", x.right(0, 0, 0, 0, 0), OUTSIDE);
        due("32 showings 100", x.right(0, 0, 0, 0, 100), OUTSIDE);
        for (int i = 2; i < 8; i++) {
            due("32 number", x.right(0, 0, 0, 0, 1), i);
        }
        due("32 full", x.right(0, 0, 0, 0, 1), FULL);
        due("32 outside ahead of full", x.right(0, 0, 0, 0, 0), OUTSIDE);
    }

    private static void p33() {
        NewsreelHouse x = withStories(new int[] {1}, new int[] {200});
        due("33 unknown", x.left(0), UNKNOWN);
        x.reserve(0, true);
        x.right(0, 1, 0, 0, 2);
        due("33 all", x.left(0), 2);
        x.show(0, 0);
        due("33 one less", x.left(0), 1);
        x.show(0, 0);
        due("33 none", x.left(0), 0);
        x.show(0, 0);
        due("33 still none", x.left(0), 0);
        due("33 above", x.left(1), UNKNOWN);
        due("33 below", x.left(-1), UNKNOWN);
    }

    private static void p34() {
        NewsreelHouse x = withStories(new int[] {1}, new int[] {200});
        due("34 free", x.allowed(0, 4, 416), 1);
        x.reserve(0, true);
        due("34 no right", x.allowed(0, 0, 5), 0);
        x.right(1, 31, 0, 416, 9);
        due("34 right to another one", x.allowed(0, 0, 5), 0);
        x.right(0, 0b10010, 5, 7, 1);
        due("34 ahead", x.allowed(0, 1, 4), 0);
        due("34 first day", x.allowed(0, 1, 5), 1);
        due("34 last day", x.allowed(0, 4, 7), 1);
        due("34 behind", x.allowed(0, 4, 8), 0);
        due("34 another land", x.allowed(0, 0, 5), 0);
        x.rule(6);
        feedText(x, 0, "l=1");
        due("34 barred", x.allowed(0, 1, 6), 0);
        due("34 not yet", x.allowed(0, 1, 5), 1);
        x.show(4, 6);
        due("34 none left", x.allowed(0, 4, 6), 0);
        due("34 story", x.allowed(1, 0, -1), UNKNOWN);
        due("34 land", x.allowed(0, 5, 0), UNKNOWN);
        due("34 land below", x.allowed(0, -1, 0), UNKNOWN);
        due("34 day above", x.allowed(0, 0, 417), OUTSIDE);
        due("34 day below", x.allowed(0, 0, -1), OUTSIDE);
    }

    private static void p35() {
        NewsreelHouse x = withStories(new int[] {1}, new int[] {200});
        due("35 least at first", x.length(false, 201), 100);
        due("35 too short", x.reel(0, 0), NONE);
        due("35 least", x.length(false, 200), 201);
        due("35 just long enough", x.reel(0, 0), 1);
        due("35 most at first", x.length(true, 200), 900);
        due("35 just short enough", x.reel(0, 0), 1);
        due("35 most below least", x.length(true, 199), STATE);
        due("35 least above most", x.length(false, 201), STATE);
        due("35 least 1", x.length(false, 1), 200);
        due("35 most below", x.length(true, 199), 200);
        due("35 too long", x.reel(0, 0), NONE);
        due("35 greatest", x.length(true, 3000), 199);
        due("35 least greatest", x.length(false, 3000), 1);
        due("35 0", x.length(false, 0), OUTSIDE);
        due("35 3001", x.length(true, 3001), OUTSIDE);
        due("35 min", x.length(true, MIN), OUTSIDE);
    }

    private static void p36() {
        NewsreelHouse x = withStories(new int[] {5, 5}, new int[] {200, 200});
        reelIs("36 free", x, 10, 0, 1);
        due("36 not at first", x.apart(0, 1, true), 0);
        reelIs("36 apart", x, 5, 0);
        due("36 both ways", x.apart(1, 0, true), 1);
        due("36 no more", x.apart(1, 0, false), 1);
        due("36 both ways again", x.apart(0, 1, false), 0);
        reelIs("36 free again", x, 10, 0, 1);
        due("36 one", x.apart(1, 1, true), STATE);
        due("36 unknown ahead of state", x.apart(2, 2, true), UNKNOWN);
        due("36 a", x.apart(-1, 0, true), UNKNOWN);
        due("36 b", x.apart(0, 2, true), UNKNOWN);
    }

    private static void p37() {
        NewsreelHouse x = withStories(new int[] {5, 9}, new int[] {500, 500});
        due("37 not at first", x.rival(1, true), 0);
        reelIs("37 less than the other", x, 5, 0);
        x.must(1, true);
        reelIs("37 half, cut", x, 4, 1);
        x.must(1, false);
        due("37 had", x.rival(1, false), 1);
        due("37 had not", x.rival(1, false), 0);
        reelIs("37 whole", x, 9, 1);
        due("37 subject 15", x.rival(15, true), 0);
        due("37 subject 16", x.rival(16, true), OUTSIDE);
        due("37 subject -1", x.rival(-1, true), OUTSIDE);
    }

    private static void p38() {
        NewsreelHouse x = new NewsreelHouse();
        due("38 nothing", x.reel(0, 0), NONE);
        due("38 land 5", x.reel(5, 417), UNKNOWN);
        due("38 land -1", x.reel(-1, 0), UNKNOWN);
        due("38 day 417", x.reel(0, 417), OUTSIDE);
        due("38 day -1", x.reel(0, -1), OUTSIDE);
        x = withStories(new int[] {60, 50, 50, 0}, new int[] {700, 450, 450, 100});
        due("38 two for one", x.reel(4, 416), 100);
        x.must(0, true);
        due("38 must", x.reel(0, 0), 60);
        x.must(1, true);
        due("38 both must, and are too long", x.reel(0, 0), NONE);
        x.length(true, 1150);
        due("38 now they fit", x.reel(0, 0), 110);
        x.rule(0);
        feedText(x, 0, "s=0&l=0");
        due("38 a barred one need not", x.reel(0, 0), 100);
        due("38 in another land it must", x.reel(1, 0), 110);
        x.lose(1);
        due("38 a lost one need not", x.reel(0, 0), 50);
        due("38 nothing in a land", withStories(new int[] {0}, new int[] {100}).reel(0, 0), 0);
        reelOfAll();
    }

    private static void reelOfAll() {
        int[] worths = new int[8];
        int[] feet = new int[8];
        for (int i = 0; i < 8; i++) {
            worths[i] = 999;
            feet[i] = 100;
        }
        NewsreelHouse x = withStories(worths, feet);
        reelIs("38 all eight", x, 7992, 0, 1, 2, 3, 4, 5, 6, 7);
        for (int i = 0; i < 7; i++) {
            x.apart(i, i + 1, true);
        }
        reelIs("38 no neighbours", x, 7992, 0, 2, 4, 1, 5, 7, 3, 6);
    }

    private static void p39() {
        NewsreelHouse x = withStories(new int[] {7, 7, 0, 0}, new int[] {100, 100, 100, 100});
        reelIs("39 a row that ends is ahead", x, 14, 0, 1);
        x.apart(0, 1, true);
        reelIs("39 something between", x, 14, 0, 2, 1);
        x.apart(0, 2, true);
        reelIs("39 the other between", x, 14, 0, 2 + 1, 1);
        x.apart(0, 3, true);
        reelIs("39 never with 0", x, 7, 0);
        x.must(2, true);
        reelIs("39 with 2", x, 7, 1, 2);
        x.apart(1, 2, true);
        reelIs("39 with 2 far off", x, 7, 1, 3, 2);
        x.lose(2);
        due("39 as it is now, with no other call ahead", x.reelAt(0, 0, 0), 0);
        x.lose(0);
        due("39 as it is now again", x.reelAt(0, 0, 0), 1);
        due("39 below", x.reelAt(0, 0, -1), NONE);
        due("39 min", x.reelAt(0, 0, MIN), NONE);
        due("39 max", x.reelAt(0, 0, MAX), NONE);
        due("39 land", x.reelAt(5, 0, 0), UNKNOWN);
        due("39 land below", x.reelAt(-1, 417, 0), UNKNOWN);
        due("39 day", x.reelAt(0, 417, 0), OUTSIDE);
        due("39 day below", x.reelAt(0, -1, -1), OUTSIDE);
        due("39 no reel", new NewsreelHouse().reelAt(0, 0, 0), NONE);
    }

    private static void p40() {
        NewsreelHouse x = withStories(new int[] {1, 2, 3, 4}, new int[] {100, 200, 300, 50});
        x.story(9, 0, 0, 9);
        due("40 nothing", x.judge(0, 0, 0x4321L), 0);
        due("40 lowest first, up to 0", x.judge(0, 0, 0xF01L), 0);
        due("40 empty", x.judge(0, 0, 0L), 5);
        due("40 figure 0 at once", x.judge(0, 0, 0x10L), 5);
        due("40 no such", x.judge(0, 0, 0x61L), 1);
        due("40 twice", x.judge(0, 0, 0x121L), 1);
        due("40 sixteen figures", x.judge(0, 0, -1L), 1);
        due("40 the highest figure counts", x.judge(0, 0, Long.MIN_VALUE), 5);
        due("40 not ready", x.judge(0, 0, 0x51L), 2);
        due("40 no such ahead of not ready", x.judge(0, 0, 0x65L), 1);
        x.reserve(0, true);
        due("40 not allowed", x.judge(0, 0, 0x21L), 3);
        due("40 not ready ahead of not allowed", x.judge(0, 0, 0x51L), 2);
        x.apart(1, 2, true);
        due("40 apart", x.judge(0, 0, 0x32L), 4);
        due("40 apart the other way", x.judge(0, 0, 0x423L), 4);
        due("40 not side by side", x.judge(0, 0, 0x342L), 0);
        x.apart(0, 3, true);
        x.reserve(0, false);
        due("40 apart from story 0", x.judge(0, 0, 0x41L), 4);
        due("40 story 0 behind", x.judge(0, 0, 0x14L), 4);
        x.reserve(0, true);
        due("40 not allowed ahead of apart", x.judge(0, 0, 0x321L), 3);
        x.length(true, 400);
        due("40 apart ahead of feet", x.judge(0, 0, 0x32L), 4);
        due("40 feet", x.judge(0, 0, 0x342L), 5);
        due("40 too short", x.judge(0, 0, 0x4L), 5);
        x.must(1, true);
        due("40 feet ahead of must", x.judge(0, 0, 0x4L), 5);
        due("40 must", x.judge(0, 0, 0x3L), 6);
        x.must(0, true);
        x.must(4, true);
        due("40 neither the reserved nor the empty one must", x.judge(0, 0, 0x2L), 0);
        due("40 land", x.judge(5, 417, 0L), UNKNOWN);
        due("40 land below", x.judge(-1, 0, 0L), UNKNOWN);
        due("40 day", x.judge(0, 417, 0L), OUTSIDE);
        due("40 day below", x.judge(0, -1, 0L), OUTSIDE);
    }

    private static void p41() {
        NewsreelHouse x = new NewsreelHouse();
        due("41 none", x.show(0, 0), STATE);
        due("41 land", x.show(5, 417), UNKNOWN);
        due("41 day", x.show(0, 417), OUTSIDE);
        due("41 day below", x.show(0, -1), OUTSIDE);
        x = withStories(new int[] {5, 5, 5}, new int[] {200, 200, 200});
        due("41 free ones take none", x.show(0, 0), 0);
        x.story(0, 0, 0, 5);
        x.put(3, 0);
        x.reserve(0, true);
        x.reserve(2, true);
        x.right(0, 2, 0, 416, 9);
        x.right(0, 1, 0, 416, 1);
        x.right(0, 31, 0, 416, 2);
        x.right(2, 1, 0, 0, 1);
        due("41 right by right", x.show(0, 0), 3);
        due("41 not in another land", x.left(0), 9);
        due("41 first", x.left(1), 0);
        due("41 then the next", x.left(2), 1);
        due("41 the other subject", x.left(3), 0);
        due("41 one showing for two", x.show(0, 0), 1);
        due("41 none left", x.left(2), 0);
        due("41 no right, not shown", x.show(0, 0), 0);
        due("41 the free one alone", x.reel(0, 0), 5);
        x.reserve(1, true);
        due("41 nothing more", x.show(0, 0), STATE);
    }

    private static void p42() {
        NewsreelHouse x = new NewsreelHouse();
        x.event(3, 100, 7);
        due("42 away at first", x.cover(), 0);
        due("42 man", x.man(3, 3, 101), 1);
        due("42 too late", x.cover(), 0);
        due("42 moved", x.man(3, 3, 100), 1);
        due("42 just there", x.cover(), 7);
        due("42 moved away", x.man(3, 4, 0), 1);
        due("42 no way", x.cover(), 0);
        due("42 man 4", x.man(4, 0, -1), UNKNOWN);
        due("42 man -1", x.man(-1, 0, 0), UNKNOWN);
        due("42 place 8", x.man(0, 8, 0), UNKNOWN);
        due("42 place -1", x.man(0, -1, 10000), UNKNOWN);
        due("42 hour above", x.man(0, 0, 10000), OUTSIDE);
        due("42 hour below", x.man(0, 0, -1), OUTSIDE);
        due("42 last hour", x.man(0, 7, 9999), 1);
    }

    private static void p43() {
        NewsreelHouse x = new NewsreelHouse();
        due("43 least", x.event(0, 0, 1), 0);
        due("43 greatest", x.event(7, 9999, 999), 1);
        due("43 place 8", x.event(8, 0, 0), UNKNOWN);
        due("43 place -1", x.event(-1, 0, 1), UNKNOWN);
        due("43 hour above", x.event(0, 10000, 1), OUTSIDE);
        due("43 hour below", x.event(0, -1, 1), OUTSIDE);
        due("43 worth 0", x.event(0, 0, 0), OUTSIDE);
        due("43 worth 1000", x.event(0, 0, 1000), OUTSIDE);
        for (int i = 2; i < 8; i++) {
            due("43 number", x.event(0, 0, 1), i);
        }
        due("43 full", x.event(0, 0, 1), FULL);
        due("43 outside ahead of full", x.event(0, 0, 0), OUTSIDE);
    }

    private static void p44() {
        NewsreelHouse x = new NewsreelHouse();
        x.event(1, 50, 10);
        due("44 no men", x.cover(), 0);
        x.man(0, 0, 0);
        due("44 no way", x.cover(), 0);
        x.way(0, 1, 0, 10, 40, 10);
        due("44 at worst just there", x.cover(), 10);
        x.way(1, 0, 50, 10, 5, 0);
        x.event(0, 55, 20);
        x.event(0, 54, 25);
        due("44 waits at home", x.cover(), 45);
        x.event(0, 0, 1);
        due("44 an event that is there", x.cover(), 46);
        x.man(1, 0, 0);
        due("44 two men", x.cover(), 56);
        x.event(1, 50, 3);
        due("44 two at once at one place", x.cover(), 59);
        x.event(1, 49, 100);
        due("44 nobody is there", x.cover(), 59);
        x.shut(0);
        due("44 a way that is shut", x.cover(), 46);
        fourMen();
    }

    private static void fourMen() {
        NewsreelHouse x = new NewsreelHouse();
        for (int i = 0; i < 5; i++) {
            x.event(i, 10, 10 + i);
        }
        for (int man = 0; man < 4; man++) {
            x.man(man, 7, 0);
        }
        for (int i = 0; i < 5; i++) {
            x.way(7, i, 1, 500, 9, 0);
        }
        due("44 four of five", x.cover(), 50);
        due("44 the least is left", x.covered(0), 0);
        due("44 the others are in all", x.covered(1), 2);
        x.event(7, 9, 1);
        x.event(7, 1, 1);
        x.event(7, 0, 1);
        due("44 eight events", x.cover(), 52);
        due("44 waiting for the late one costs more", x.covered(5), 0);
    }

    private static void p45() {
        NewsreelHouse x = new NewsreelHouse();
        due("45 unknown", x.covered(0), UNKNOWN);
        x.event(1, 10, 5);
        x.event(2, 10, 5);
        x.event(3, 10, 4);
        x.event(0, 0, 1);
        due("45 nobody", x.covered(0), 0);
        x.man(0, 0, 0);
        for (int p = 1; p < 4; p++) {
            x.way(0, p, 0, 10, 5, 5);
        }
        due("45 in some", x.covered(0), 1);
        due("45 in some too", x.covered(1), 1);
        due("45 in none", x.covered(2), 0);
        due("45 in all", x.covered(3), 2);
        due("45 worth", x.cover(), 6);
        x.event(3, 10, 1);
        due("45 two together are as good", x.covered(2), 1);
        due("45 and the other", x.covered(4), 1);
        x.man(1, 0, 0);
        due("45 two men, ten of fifteen", x.cover(), 11);
        due("45 still in some", x.covered(4), 1);
        x.man(0, 7, 0);
        x.man(1, 7, 0);
        for (int event = 0; event < 5; event++) {
            due("45 nobody can any more", x.covered(event), 0);
        }
        due("45 above", x.covered(5), UNKNOWN);
        due("45 below", x.covered(-1), UNKNOWN);
    }

    private static void p46() {
        NewsreelHouse x = new NewsreelHouse();
        due("46 least", x.hall(0, 0, 0, 1), 0);
        due("46 greatest", x.hall(4, 8, 8, 9999), 1);
        due("46 all weeks", x.hall(4, 0, 8, 9999), 2);
        due("46 land 5", x.hall(5, 9, 9, 0), UNKNOWN);
        due("46 land -1", x.hall(-1, 0, 0, 1), UNKNOWN);
        due("46 from -1", x.hall(0, -1, 0, 1), OUTSIDE);
        due("46 to 9", x.hall(0, 0, 9, 1), OUTSIDE);
        due("46 from 9", x.hall(0, 9, 9, 1), OUTSIDE);
        due("46 to below from", x.hall(0, 2, 1, 1), OUTSIDE);
        due("46 take 0", x.hall(0, 0, 0, 0), OUTSIDE);
        due("46 take 10000", x.hall(0, 0, 0, 10000), OUTSIDE);
        for (int i = 3; i < 8; i++) {
            due("46 number", x.hall(0, 0, 0, 1), i);
        }
        due("46 full", x.hall(0, 0, 0, 1), FULL);
        due("46 outside ahead of full", x.hall(0, 0, 0, 0), OUTSIDE);
    }

    private static void p47() {
        NewsreelHouse x = new NewsreelHouse();
        for (int week = 0; week < 9; week++) {
            due("47 at first", x.part(week, week), 100);
        }
        due("47 changed", x.part(8, 100), 8);
        due("47 week 9", x.part(9, 0), OUTSIDE);
        due("47 week -1", x.part(-1, 0), OUTSIDE);
        due("47 101", x.part(0, 101), OUTSIDE);
        due("47 -1", x.part(0, -1), OUTSIDE);
        x.hall(0, 3, 3, 199);
        due("47 cut", x.run(), 5);
    }

    private static void p48() {
        NewsreelHouse x = new NewsreelHouse();
        x.hall(0, 4, 4, 10);
        x.hall(0, 4, 4, 20);
        due("48 one at first", x.run(), 20);
        due("48 was 1", x.prints(2), 1);
        due("48 two", x.run(), 30);
        due("48 was 2", x.prints(0), 2);
        due("48 none", x.run(), 0);
        due("48 was 0", x.prints(8), 0);
        due("48 9", x.prints(9), OUTSIDE);
        due("48 -1", x.prints(-1), OUTSIDE);
        due("48 unchanged", x.prints(8), 8);
    }

    private static void p49() {
        NewsreelHouse x = new NewsreelHouse();
        due("49 no halls", x.run(), 0);
        x.hall(0, 0, 1, 100);
        x.hall(0, 0, 0, 99);
        x.part(1, 50);
        due("49 the greater one steps aside", x.run(), 149);
        x.part(1, 0);
        due("49 it does not", x.run(), 100);
        x = new NewsreelHouse();
        for (int i = 0; i < 8; i++) {
            x.hall(0, 0, 8, 9999);
        }
        due("49 all", x.run(), 79992);
        x.prints(8);
        due("49 all in one week", x.run(), 79992);
        for (int week = 0; week < 9; week++) {
            x.part(week, 33);
        }
        due("49 each is cut", x.run(), 8 * 3299);
    }

    private static void p50() {
        NewsreelHouse x = new NewsreelHouse();
        due("50 unknown", x.week(0), UNKNOWN);
        for (int i = 0; i < 4; i++) {
            x.hall(0, 2, 4, 10);
        }
        int[] first = {2, 3, 4, NONE};
        weeksAre("50 one print", x, first);
        x.prints(2);
        weeksAre("50 two prints", x, new int[] {2, 2, 3, 3});
        x.part(2, 0);
        weeksAre("50 no part", x, new int[] {3, 3, 4, 4});
        x.part(3, 0);
        x.part(4, 0);
        weeksAre("50 nothing to earn: the earlier week is ahead of none", x, new int[] {2, 2, 3, 3});
        x.part(4, 100);
        x.prints(1);
        weeksAre("50 the first hall earns", x, new int[] {2, 3, 4, NONE});
        x.prints(0);
        weeksAre("50 no prints", x, new int[] {NONE, NONE, NONE, NONE});
        due("50 above", x.week(4), UNKNOWN);
        due("50 below", x.week(-1), UNKNOWN);
        x = new NewsreelHouse();
        x.hall(0, 0, 8, 5);
        x.hall(0, 0, 0, 6);
        weeksAre("50 earning most is ahead of early weeks", x, new int[] {1, 0});
        eightHalls();
    }

    private static void eightHalls() {
        NewsreelHouse x = new NewsreelHouse();
        for (int i = 0; i < 8; i++) {
            x.hall(0, 0, 8, 1);
        }
        weeksAre("50 eight halls, one print", x, new int[] {0, 1, 2, 3, 4, 5, 6, 7});
        x.prints(3);
        weeksAre("50 eight halls, three prints", x, new int[] {0, 0, 0, 1, 1, 1, 2, 2});
        x.prints(8);
        weeksAre("50 eight halls, eight prints", x, new int[] {0, 0, 0, 0, 0, 0, 0, 0});
        for (int week = 0; week < 8; week++) {
            x.part(week, 99);
        }
        weeksAre("50 all in the last week", x, new int[] {8, 8, 8, 8, 8, 8, 8, 8});
        x.prints(7);
        weeksAre("50 the first hall need not earn", x, new int[] {0, 8, 8, 8, 8, 8, 8, 8});
    }

    private static void weeksAre(String what, NewsreelHouse x, int[] weeks) {
        for (int hall = 0; hall < weeks.length; hall++) {
            due(what + " " + hall, x.week(hall), weeks[hall]);
        }
    }

    private static void p51() {
        NewsreelHouse x = at(7);
        x.shot(0, 0, 1, 0, 0, 0);
        x.shot(0, 0, 1, 0, 0, 1);
        x.shot(0, 0, 1, 0, 0, 2);
        x.story(0, 0, 0, 0);
        for (int i = 0; i < 2; i++) {
            x.rule(0);
            x.event(0, 0, 1);
        }
        for (int i = 0; i < 4; i++) {
            x.right(0, 0, 0, 0, 1);
        }
        for (int i = 0; i < 5; i++) {
            x.hall(0, 0, 0, 1);
        }
        int[] want = {3, 2, 1, 2, 4, 2, 5, 7};
        for (int what = 0; what < 8; what++) {
            due("51 " + what, x.count(what), want[what]);
        }
        NewsreelHouse y = new NewsreelHouse();
        y.shot(0, 0, 1, 0, 0, 1);
        due("51 the first shot is in", y.count(1), 1);
        x.lose(1);
        due("51 lost: still a shot", x.count(0), 3);
        due("51 lost: not in", x.count(1), 1);
        due("51 8", x.count(8), OUTSIDE);
        due("51 -1", x.count(-1), OUTSIDE);
        due("51 min", x.count(MIN), OUTSIDE);
    }

    public static void main(String[] args) {
        p01(); p02(); p03(); p04(); p05(); p06(); p07(); p08(); p09(); p10();
        p11(); p12(); p13(); p14(); p15(); p16(); p17(); p18(); p19(); p20();
        p21(); p22(); p23(); p24(); p25(); p26(); p27(); p28(); p29(); p30();
        p31(); p32(); p33(); p34(); p35(); p36(); p37(); p38(); p39(); p40();
        p41(); p42(); p43(); p44(); p45(); p46(); p47(); p48(); p49(); p50();
        p51();
        System.out.println(wrong == 0 ? "promises 1 to 51 are as due" : wrong + " answers are not as due");
        if (wrong != 0) {
            System.exit(1);
        }
    }
}
