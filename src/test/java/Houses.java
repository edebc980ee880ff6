import java.util.ArrayList;
import java.util.List;

/**
 * Houses to try calls on, and all that can be seen of one: two houses made alike whose traces are the same are
 * in the same state. No house is used for more than 512 calls: each part of a trace takes a house of its own.
 */
final class Houses {
    /** How a house was made: nothing in it, something of each kind, every row full. */
    static final int EMPTY = 0, MIXED = 1, CROWDED = 2;
    static final int TRACE_PARTS = 11;

    private Houses() {
    }

    static NewsreelHouse at(int hour) {
        NewsreelHouse x = new NewsreelHouse();
        for (int left = hour; left > 0; left -= 500) {
            x.pass(Math.min(500, left));
        }
        return x;
    }

    static NewsreelHouse made(int how) {
        return how == EMPTY ? new NewsreelHouse() : how == MIXED ? mixed() : crowded();
    }

    static int feedText(NewsreelHouse x, int rule, String text) {
        int size = 0;
        for (int i = 0; i < text.length(); i += 8) {
            size = x.feed(rule, packed(text.substring(i, Math.min(text.length(), i + 8))));
        }
        return size;
    }

    /** Up to eight bytes, the first one the lowest. */
    static long packed(String text) {
        long bytes = 0;
        for (int i = 0; i < text.length(); i++) {
            bytes |= (long) (text.charAt(i) & 255) << 8 * i;
        }
        return bytes;
    }

    static String times(int n, String part) {
        return part.repeat(n);
    }

    /**
     * THE HOUR is 1005. Ways 0 to 4, 3 is shut. Shots: 0 kept, 1 lent, 2 away, 3 sent (expected at 1005, at
     * worst at 1007), 4 came, 5 lost, 6 away where no way is, 7 kept and lost, 8 sent and lost. Stories: 0 of
     * shots 0 and 4, 1 of 1, 2 of none, 3 of 4 and 7, 4 of 4 and 1. Rule 2 has a fault, rule 3 is struck.
     */
    private static NewsreelHouse mixed() {
        NewsreelHouse x = at(1000);
        x.way(1, 0, 0, 10, 5, 2);
        x.way(2, 1, 3, 20, 4, 6);
        x.way(0, 1, 0, 12, 3, 0);
        x.way(3, 0, 0, 9, 1, 1);
        x.way(4, 0, 5000, 500, 7, 0);
        x.shut(3);
        x.shot(1, 100, 120, 1, 3, 1);
        x.shot(2, 990, 150, 2, 4, 2);
        x.shot(1, 991, 60, 3, 0, 0);
        x.shot(1, 991, 70, 3, 0, 0);
        x.shot(0, 995, 200, 4, 1, 0);
        x.shot(2, 995, 80, 5, 8, 0);
        x.shot(3, 996, 90, 6, 16, 0);
        x.shot(4, 500, 33, 7, 32, 1);
        x.shot(1, 997, 34, 8, 64, 0);
        x.send(3);
        x.send(4);
        x.come(4);
        x.lose(5);
        x.send(8);
        x.lose(8);
        x.fact(0, 6, 350, 45);
        x.fact(1, 255, 0, 30);
        x.fact(2, 3, 41, 41);
        mixedStories(x);
        x.man(0, 0, 1000);
        x.man(3, 2, 990);
        x.event(1, 1020, 5);
        x.event(0, 1010, 7);
        x.event(2, 1100, 9);
        x.event(1, 1020, 3);
        x.hall(0, 0, 2, 100);
        x.hall(1, 1, 1, 301);
        x.hall(2, 0, 8, 77);
        x.part(1, 50);
        x.part(3, 0);
        x.prints(2);
        x.pass(5);
        return x;
    }

    private static void mixedStories(NewsreelHouse x) {
        x.story(1, 1, 1000, 50);
        x.story(2, 2, 990, 41);
        x.story(3, 0, 5000, 9);
        x.story(4, 0, 1000, 30);
        x.story(4, 1, 1000, 77);
        int[][] rows = {{0, 0}, {0, 4}, {1, 1}, {3, 4}, {3, 7}, {4, 4}, {4, 1}};
        for (int[] put : rows) {
            x.put(put[0], put[1]);
        }
        x.lose(7);
        x.say(0, true);
        x.must(1, true);
        x.age(20);
        x.rate(2, 50);
        String[] texts = {"s=1&l=0", "u>0&l=3", "k=1&", "s=2&l=1"};
        for (int i = 0; i < 4; i++) {
            x.rule(5 * i);
            feedText(x, i, texts[i]);
        }
        x.strike(3, 40);
        x.reserve(1, true);
        x.reserve(2, true);
        x.right(1, 31, 0, 416, 3);
        x.right(2, 15, 0, 100, 2);
        x.right(2, 31, 50, 60, 1);
        x.length(true, 700);
        x.length(false, 90);
        x.apart(0, 1, true);
        x.apart(1, 4, true);
        x.rival(4, true);
    }

    /** THE HOUR is 9990; every row has as much as it holds. Shots 36 to 39 are away, all others are in. */
    private static NewsreelHouse crowded() {
        NewsreelHouse x = at(9990);
        for (int i = 0; i < 24; i++) {
            x.way(i % 8, (i + 1 + i / 8) % 8, i, 10 + i, 3, i % 5);
        }
        for (int i = 0; i < 40; i++) {
            int marks = i < 8 ? 1 << i : i * 7 & 255;
            x.shot(i % 8, 9000 + 20 * i, 20 + i, i % 16, marks, i >= 36 ? 0 : 1 + i % 2);
        }
        for (int i = 0; i < 8; i++) {
            x.story(i, 7 - i, 9600 + 50 * i, 100 + 7 * i);
            for (int k = 0; k < 6; k++) {
                x.put(i, (4 * i + k) % 36);
            }
            x.right(i, 31 - i, i, 416 - i, 1 + i);
            x.event(i, 9000 + 40 * (i * 3 % 8), 1 + i);
            x.hall(i % 5, i / 2, 8 - i / 3, 100 + i);
        }
        for (int i = 0; i < 6; i++) {
            x.rule(60 * i);
            feedText(x, i, (" s=" + i + "&l=" + i % 5 + times(80, " ")).substring(0, 80));
        }
        for (int i = 0; i < 4; i++) {
            x.man(i, 2 * i, 8900);
        }
        x.fact(3, 0xF0, 300, 60);
        x.reserve(3, true);
        x.length(true, 1500);
        x.prints(2);
        return x;
    }

    static List<Integer> trace(NewsreelHouse x, int part) {
        List<Integer> seen = new ArrayList<>();
        switch (part) {
            case 0: traceWays(x, seen); break;
            case 1: traceNumbers(x, seen); break;
            case 2: traceAbout(x, seen); break;
            case 3: traceHours(x, seen); break;
            case 4: traceMarks(x, seen); break;
            case 5: traceMoves(x, seen); break;
            case 6: traceStories(x, seen); break;
            case 7: traceRules(x, seen); break;
            case 8: traceRights(x, seen); break;
            case 9: traceReels(x, seen); break;
            default: traceMenAndHalls(x, seen); break;
        }
        return seen;
    }

    private static void traceWays(NewsreelHouse x, List<Integer> seen) {
        for (int from = 0; from < 8; from++) {
            for (int to = 0; to < 8; to++) {
                seen.add(x.arrival(from, 0, to, false));
                seen.add(x.arrival(from, 993, to, true));
            }
        }
    }

    private static void traceNumbers(NewsreelHouse x, List<Integer> seen) {
        for (int what = 0; what < 8; what++) {
            seen.add(x.count(what));
        }
        seen.add(x.pass(1));
        seen.add(x.way(5, 6, 0, 1, 1, 0));
        seen.add(x.shot(0, 0, 1, 0, 0, 0));
        seen.add(x.story(0, 0, 0, 0));
        seen.add(x.rule(0));
        seen.add(x.right(0, 0, 0, 0, 1));
        seen.add(x.event(0, 0, 1));
        seen.add(x.hall(0, 0, 0, 1));
        for (int way = 0; way < 25; way++) {
            seen.add(x.shut(way));
        }
    }

    private static void traceAbout(NewsreelHouse x, List<Integer> seen) {
        for (int shot = 0; shot < 40; shot++) {
            for (int what = 0; what < 6; what++) {
                seen.add(x.about(shot, what));
            }
        }
    }

    private static void traceHours(NewsreelHouse x, List<Integer> seen) {
        int now = x.count(7);
        seen.add(x.overdue());
        for (int shot = 0; shot < 40; shot++) {
            seen.add(x.expected(shot, false));
            seen.add(x.expected(shot, true));
            seen.add(x.where(shot, now));
            seen.add(x.where(shot, Math.max(0, now - 5)));
            seen.add(x.where(shot, Math.max(0, now - 6)));
        }
    }

    private static void traceMarks(NewsreelHouse x, List<Integer> seen) {
        for (int i = 0; i < 12; i++) {
            seen.add(x.find(i % 3, 9000 * (i % 2), i / 3));
        }
        int first = x.count(0);
        for (int mark = 0; mark < 8; mark++) {
            seen.add(x.shot(0, 0, 1, 0, 1 << mark, 1));
            int shot = first == 40 ? mark : first + mark;
            for (int place = 0; place < 8; place++) {
                seen.add(x.lie(shot, place, 24 * 41));
                seen.add(x.lie(shot, place, 24 * (100 + 7 * place)));
            }
        }
    }

    private static void traceMoves(NewsreelHouse x, List<Integer> seen) {
        for (int shot = 0; shot < 40; shot++) {
            seen.add(x.send(shot));
            seen.add(x.come(shot));
            seen.add(x.lose(shot));
        }
    }

    private static void traceStories(NewsreelHouse x, List<Integer> seen) {
        for (int story = 0; story < 8; story++) {
            for (int what = 0; what < 7; what++) {
                seen.add(x.of(story, what));
            }
            seen.add(x.cost(story));
            seen.add(x.say(story, true));
            seen.add(x.must(story, true));
            for (int i = 0; i < 7; i++) {
                seen.add(x.cut(story, 0));
            }
        }
        seen.add(x.age(0));
        for (int kind = 0; kind < 3; kind++) {
            seen.add(x.rate(kind, 0));
        }
    }

    private static void traceRules(NewsreelHouse x, List<Integer> seen) {
        for (int story = 0; story < 8; story++) {
            for (int land = 0; land < 5; land++) {
                for (int day = 4; day < 417; day += 136) {
                    seen.add(x.bars(story, land, day));
                }
            }
        }
        for (int rule = 0; rule < 7; rule++) {
            seen.add(x.fault(rule));
            seen.add(x.feed(rule, 0L));
            seen.add(x.strike(rule, 0));
        }
    }

    private static void traceRights(NewsreelHouse x, List<Integer> seen) {
        for (int right = 0; right < 9; right++) {
            seen.add(x.left(right));
        }
        for (int subject = 0; subject < 16; subject++) {
            seen.add(x.reserve(subject, true));
        }
        for (int story = 0; story < 8; story++) {
            for (int land = 0; land < 5; land++) {
                for (int day = 3; day < 417; day += 100) {
                    seen.add(x.allowed(story, land, day));
                }
            }
        }
    }

    private static void traceReels(NewsreelHouse x, List<Integer> seen) {
        for (int land = 0; land < 5; land++) {
            for (int i = 0; i < 9; i++) {
                seen.add(x.reelAt(land, 41, i));
            }
            seen.add(x.reel(land, 60));
            seen.add(x.judge(land, 41, 0x215L));
            seen.add(x.show(land, 41));
        }
        for (int right = 0; right < 9; right++) {
            seen.add(x.left(right));
        }
        for (int a = 0; a < 8; a++) {
            for (int b = 0; b < a; b++) {
                seen.add(x.apart(a, b, false));
            }
        }
        for (int subject = 0; subject < 16; subject++) {
            seen.add(x.rival(subject, true));
        }
        seen.add(x.length(false, 1));
        seen.add(x.length(true, 1));
    }

    private static void traceMenAndHalls(NewsreelHouse x, List<Integer> seen) {
        seen.add(x.cover());
        seen.add(x.run());
        for (int i = 0; i < 9; i++) {
            seen.add(x.covered(i));
            seen.add(x.week(i));
        }
        for (int man = 0; man < 4; man++) {
            seen.add(x.man(man, 7, 9999));
            seen.add(x.cover());
        }
        for (int week = 0; week < 9; week++) {
            seen.add(x.part(week, 100));
            seen.add(x.run());
        }
        seen.add(x.prints(8));
        seen.add(x.run());
    }
}
