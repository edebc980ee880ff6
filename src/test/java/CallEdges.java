/** The edges that promises 1 to 51 name, sentence by sentence. */
final class CallEdges extends Edges {
    CallEdges(Sentences sentences) {
        super(sentences);
    }

    void all() {
        newObject();
        pass();
        way();
        shut();
        arrival();
        shot();
        about();
        send();
        expected();
        come();
        lose();
        where();
        overdue();
        fact();
        lie();
        find();
        story();
        put();
        cut();
        say();
        must();
        of();
        age();
        cost();
        rate();
        rule();
        feed();
        fault();
        strike();
        bars();
        reserve();
        right();
        left();
        allowed();
        length();
        apart();
        rival();
        reel();
        reelAt();
        judge();
        judgeOrder();
        show();
        man();
        event();
        cover();
        covered();
        hall();
        part();
        prints();
        run();
        week();
        count();
    }

    private void newObject() {
        promise(1);
        says("THE HOUR is 0");
        NewsreelHouse x = fresh();
        due("the hour", x.count(7), 0);
        due("one hour on", x.pass(1), 1);
        due("another object has its own", fresh().count(7), 0);
        says("there is nothing");
        row("counts", (y, what) -> y.count(what), fresh(), 0, 0, 0, 0, 0, 0, 0, 0);
        NewsreelHouse z = Houses.made(CROWDED);
        due("nothing of another object: shots", fresh().count(0), 0);
        due("which has its own", z.count(0), 40);
        due("no way", fresh().shut(0), UNKNOWN);
        due("no shot", fresh().about(0, 0), UNKNOWN);
        due("no story", fresh().of(0, 0), UNKNOWN);
        due("no rule", fresh().fault(0), UNKNOWN);
        due("no right", fresh().left(0), UNKNOWN);
        due("no event", fresh().covered(0), UNKNOWN);
        due("no hall", fresh().week(0), UNKNOWN);
        due("nothing is overdue", fresh().overdue(), 0);
        due("nothing is found", fresh().find(0, 0, 0), NONE);
        due("no reel", fresh().reel(0, 0), NONE);
        due("nothing is covered", fresh().cover(), 0);
        due("nothing is earned", fresh().run(), 0);
    }

    private void pass() {
        promise(2);
        says("n HOURS go by (1 to 500): THE HOUR");
        NewsreelHouse x = fresh();
        due("1", x.pass(1), 1);
        due("500", x.pass(500), 501);
        due("2", x.pass(2), 503);
        due("the hour", x.count(7), 503);
        says("OUTSIDE");
        refusedFor("pass", OUTSIDE, (y, v) -> y.pass(v), 0, -1, 501, MIN, MAX);
        says("FULL: above 9999");
        refusedIn(CROWDED, "from 9990 on", FULL, (y, v) -> y.pass(v), 10, 500);
        due("to 9999", crowded().pass(9), 9999);
        due("from 9999", at(9999).pass(1), FULL);
        due("from 9500, 500", at(9500).pass(500), FULL);
        due("from 9500, 499", at(9500).pass(499), 9999);
    }

    private void way() {
        promise(3);
        says("A WAY: its number");
        NewsreelHouse x = fresh();
        due("the least of all", x.way(0, 7, 0, 1, 1, 0), 0);
        due("the greatest of all", x.way(7, 0, 9999, 500, 500, 200), 1);
        due("one like another", x.way(7, 0, 9999, 500, 500, 200), 2);
        says("UNKNOWN: places");
        refusedFor("from", UNKNOWN, (y, v) -> y.way(v, 0, 0, 1, 1, 0), -1, 8, MIN, MAX);
        refusedFor("to", UNKNOWN, (y, v) -> y.way(0, v, 0, 1, 1, 0), -1, 8, MIN, MAX);
        says("OUTSIDE: first, every (1 to 500), takes (1 to 500), late (0 to 200)");
        refusedFor("first", OUTSIDE, (y, v) -> y.way(1, 0, v, 1, 1, 0), -1, 10000, MIN, MAX);
        refusedFor("every", OUTSIDE, (y, v) -> y.way(1, 0, 0, v, 1, 0), 0, -1, 501, MIN, MAX);
        refusedFor("takes", OUTSIDE, (y, v) -> y.way(1, 0, 0, 1, v, 0), 0, -1, 501, MIN, MAX);
        refusedFor("late", OUTSIDE, (y, v) -> y.way(1, 0, 0, 1, 1, v), -1, 201, MIN, MAX);
        says("STATE: both PLACES are one");
        refusedFor("place", STATE, (y, v) -> y.way(v, v, 0, 1, 1, 0), 0, 1, 7);
        says("FULL: 24");
        refused("the 25th", FULL, y -> y.way(1, 0, 0, 1, 1, 0), CROWDED);
        x = fresh();
        for (int i = 0; i < 24; i++) {
            due("the 24 first", x.way(1, 0, 0, 1, 1, 0), i);
            x.shut(i);
        }
        due("shut ones count, too", x.way(1, 0, 0, 1, 1, 0), FULL);
    }

    private void shut() {
        promise(4);
        says("A WAY is SHUT: 1");
        NewsreelHouse x = crowded();
        due("the first", x.shut(0), 1);
        due("the last", x.shut(23), 1);
        x = fresh();
        x.way(1, 0, 0, 1, 5, 0);
        x.way(1, 0, 0, 1, 3, 0);
        x.shut(1);
        due("the other one is used", x.arrival(1, 0, 0, false), 5);
        x.shut(0);
        due("none is", x.arrival(1, 0, 0, false), NONE);
        says("UNKNOWN");
        refusedFor("way", UNKNOWN, (y, v) -> y.shut(v), -1, 24, MIN, MAX);
        refused("way 0 of none", UNKNOWN, y -> y.shut(0), EMPTY);
        refused("way 5 of five", UNKNOWN, y -> y.shut(5), MIXED);
        says("STATE: it is");
        refused("way 3", STATE, y -> y.shut(3), MIXED);
    }

    private void arrival() {
        promise(5);
        says("ARRIVAL, at best (worst = false), at worst");
        NewsreelHouse x = mixed();
        due("at best", x.arrival(1, 1000, 0, false), 1005);
        due("at worst", x.arrival(1, 1000, 0, true), 1007);
        due("two ways at best: there at 1007, on at 1010", x.arrival(2, 1000, 0, false), 1015);
        due("two ways at worst: there at 1013, on at 1020", x.arrival(2, 1000, 0, true), 1027);
        due("an hour ahead of THE HOUR", x.arrival(1, 0, 0, false), 5);
        onlyAsks("at worst", y -> y.arrival(2, 1000, 0, true));
        says("NONE: there are no such WAYS");
        due("shut", x.arrival(3, 0, 0, false), NONE);
        due("none from there", x.arrival(6, 0, 0, false), NONE);
        due("none to there", x.arrival(0, 0, 6, true), NONE);
        due("none that late", x.arrival(4, 9501, 0, false), NONE);
        due("the last one", x.arrival(4, 9500, 0, false), 9507);
        says("UNKNOWN");
        refusedFor("from", UNKNOWN, (y, v) -> y.arrival(v, 0, 0, false), -1, 8, MIN, MAX);
        refusedFor("to", UNKNOWN, (y, v) -> y.arrival(0, 0, v, false), -1, 8, MIN, MAX);
        refusedFor("both, the same", UNKNOWN, (y, v) -> y.arrival(v, 0, v, false), -1, 8);
        says("OUTSIDE: hour");
        refusedFor("hour", OUTSIDE, (y, v) -> y.arrival(1, v, 0, true), -1, 10000, MIN, MAX);
        refusedFor("hour, at the same place", OUTSIDE, (y, v) -> y.arrival(1, v, 1, true), -1, 10000, MIN, MAX);
    }

    private void shot() {
        promise(6);
        says("A SHOT: its number");
        NewsreelHouse x = at(1);
        due("the least of all", x.shot(0, 0, 1, 0, 0, 0), 0);
        due("the greatest of all", x.shot(7, 1, 900, 15, 255, 2), 1);
        due("one like another", x.shot(7, 1, 900, 15, 255, 2), 2);
        says("UNKNOWN: place");
        refusedFor("place", UNKNOWN, (y, v) -> y.shot(v, 0, 1, 0, 0, 0), -1, 8, MIN, MAX);
        says("OUTSIDE: hour (THE HOUR at most), feet (1 to 900), subject, marks (0 to 255), kind");
        refusedFor("hour", OUTSIDE, (y, v) -> y.shot(0, v, 1, 0, 0, 0), -1, 10000, MIN, MAX);
        refused("an hour that is to come, of 0", OUTSIDE, y -> y.shot(0, 1, 1, 0, 0, 0), EMPTY);
        refused("an hour that is to come, of 1005", OUTSIDE, y -> y.shot(0, 1006, 1, 0, 0, 0), MIXED);
        refused("an hour that is to come, of 9990", OUTSIDE, y -> y.shot(0, 9991, 1, 0, 0, 0), CROWDED);
        due("THE HOUR itself", mixed().shot(0, 1005, 1, 0, 0, 0), 9);
        refusedFor("feet", OUTSIDE, (y, v) -> y.shot(0, 0, v, 0, 0, 0), 0, -1, 901, MIN, MAX);
        refusedFor("subject", OUTSIDE, (y, v) -> y.shot(0, 0, 1, v, 0, 0), -1, 16, MIN, MAX);
        refusedFor("marks", OUTSIDE, (y, v) -> y.shot(0, 0, 1, 0, v, 0), -1, 256, MIN, MAX);
        refusedFor("kind", OUTSIDE, (y, v) -> y.shot(0, 0, 1, 0, 0, v), -1, 3, MIN, MAX);
        says("FULL: 40");
        refusedIn(CROWDED, "kind", FULL, (y, v) -> y.shot(0, 0, 1, 0, 0, v), 0, 1, 2);
        x = fresh();
        for (int i = 0; i < 40; i++) {
            due("the 40 first", x.shot(0, 0, 1, 0, 0, 1), i);
            x.lose(i);
        }
        due("lost ones count, too", x.shot(0, 0, 1, 0, 0, 1), FULL);
    }

    private void about() {
        promise(7);
        says("Of a SHOT: PLACE (what = 0), HOUR (1), FEET (2), SUBJECT (3), MARKS (4), KIND (5)");
        row("shot 0", (y, what) -> y.about(0, what), mixed(), 1, 100, 120, 1, 3, 1);
        row("shot 8, which is lost", (y, what) -> y.about(8, what), mixed(), 1, 997, 34, 8, 64, 0);
        NewsreelHouse x = at(9999);
        x.shot(7, 9999, 900, 15, 255, 2);
        row("the greatest of all", (y, what) -> y.about(0, what), x, 7, 9999, 900, 15, 255, 2);
        x.shot(0, 0, 1, 0, 0, 0);
        row("the least of all", (y, what) -> y.about(1, what), x, 0, 0, 1, 0, 0, 0);
        onlyAsks("about", y -> y.about(0, 1));
        says("UNKNOWN");
        refusedFor("shot", UNKNOWN, (y, v) -> y.about(v, 0), -1, 40, MIN, MAX);
        refused("shot 0 of none", UNKNOWN, y -> y.about(0, 0), EMPTY);
        refused("shot 9 of nine", UNKNOWN, y -> y.about(9, 0), MIXED);
        says("OUTSIDE");
        refusedIn(MIXED, "what", OUTSIDE, (y, v) -> y.about(0, v), -1, 6, MIN, MAX);
        refusedIn(CROWDED, "what", OUTSIDE, (y, v) -> y.about(39, v), -1, 6, MIN, MAX);
    }

    private void send() {
        promise(8);
        says("A SHOT is SENT: when it is expected at best");
        NewsreelHouse x = mixed();
        due("leaves at 1010", x.send(2), 1015);
        due("is sent", x.where(2, 1005), 2);
        due("at THE HOUSE it is expected at once", crowded().send(38) - crowded().arrival(6, 9990, 0, false), 0);
        x = at(9999);
        x.shot(0, 0, 1, 0, 0, 0);
        due("at the last hour", x.send(0), 9999);
        x.way(5, 0, 9999, 1, 500, 200);
        x.shot(5, 0, 1, 0, 0, 0);
        due("expected behind all hours", x.send(1), 10499);
        says("UNKNOWN");
        refusedFor("shot", UNKNOWN, (y, v) -> y.send(v), -1, 40, MIN, MAX);
        refused("shot 0 of none", UNKNOWN, y -> y.send(0), EMPTY);
        refused("shot 9 of nine", UNKNOWN, y -> y.send(9), MIXED);
        says("STATE: it is not AWAY, or there are no WAYS (at best or at worst)");
        refusedIn(MIXED, "kept, lent, sent, come, lost, kept and lost, sent and lost", STATE, (y, v) -> y.send(v), 0, 1, 3, 4, 5, 7, 8);
        refused("no ways", STATE, y -> y.send(6), MIXED);
        x = at(9900);
        x.way(1, 2, 9900, 500, 50, 11);
        x.way(2, 0, 9960, 500, 9, 0);
        x.shot(1, 0, 1, 0, 0, 0);
        due("ways at best", x.arrival(1, 9900, 0, false), 9969);
        due("none at worst", x.send(0), STATE);
        due("still away", x.where(0, 9900), 1);
        due("not expected", x.expected(0, false), NONE);
        x.way(2, 0, 9961, 500, 20, 0);
        due("at worst another way", x.send(0), 9969);
        due("by which it is expected then", x.expected(0, true), 9981);
    }

    private void expected() {
        promise(9);
        says("When it is expected at best (worst = false), at worst");
        NewsreelHouse x = mixed();
        due("at best", x.expected(3, false), 1005);
        due("at worst", x.expected(3, true), 1007);
        x.shut(0);
        due("when the way is shut", x.expected(3, true), 1007);
        x.pass(500);
        due("when it is overdue", x.expected(3, false), 1005);
        x.come(3);
        due("when it has come", x.expected(3, true), 1007);
        x.lose(3);
        due("when it is lost", x.expected(3, false), 1005);
        due("when it was sent and lost", x.expected(8, true), 1007);
        due("from THE HOUSE", x.expected(4, true), 1000);
        onlyAsks("expected", y -> y.expected(3, true));
        says("NONE: it was not SENT");
        for (int shot : new int[] {0, 1, 2, 5, 6, 7}) {
            due("shot at best " + shot, mixed().expected(shot, false), NONE);
            due("shot at worst " + shot, mixed().expected(shot, true), NONE);
        }
        says("UNKNOWN");
        refusedFor("shot", UNKNOWN, (y, v) -> y.expected(v, false), -1, 40, MIN, MAX);
        refused("shot 0 of none", UNKNOWN, y -> y.expected(0, true), EMPTY);
        refused("shot 9 of nine", UNKNOWN, y -> y.expected(9, true), MIXED);
    }

    private void come() {
        promise(10);
        says("A SHOT COMES: how late it is against what was expected at best");
        NewsreelHouse x = mixed();
        due("at that hour", x.come(3), 0);
        x = mixed();
        x.pass(1);
        due("an hour late", x.come(3), 1);
        x = mixed();
        x.pass(500);
        due("later than at worst", x.come(3), 500);
        due("is in", x.where(3, 1505), 3);
        says("UNKNOWN");
        refusedFor("shot", UNKNOWN, (y, v) -> y.come(v), -1, 40, MIN, MAX);
        refused("shot 0 of none", UNKNOWN, y -> y.come(0), EMPTY);
        refused("shot 9 of nine", UNKNOWN, y -> y.come(9), MIXED);
        says("STATE: it is not SENT, or that HOUR is still to come");
        refusedIn(MIXED, "kept, lent, away, come, lost, away, kept and lost, sent and lost", STATE, (y, v) -> y.come(v), 0, 1, 2, 4, 5, 6, 7, 8);
        x = mixed();
        x.send(2);
        due("sent, expected in ten hours", x.come(2), STATE);
        x.pass(9);
        due("in an hour", x.come(2), STATE);
        due("still sent", x.where(2, 1014), 2);
        x.pass(1);
        due("now", x.come(2), 0);
        due("twice", x.come(2), STATE);
    }

    private void lose() {
        promise(11);
        says("A SHOT is LOST: WHERE it was");
        row("kept, lent, away, sent, come", (y, shot) -> y.lose(shot), mixed(), 3, 3, 1, 2, 3);
        NewsreelHouse x = mixed();
        x.lose(0);
        due("is lost", x.where(0, 1005), 4);
        due("was not till now", x.where(0, 1004), 3);
        due("is not in any more", x.count(1), mixed().count(1) - 1);
        says("UNKNOWN");
        refusedFor("shot", UNKNOWN, (y, v) -> y.lose(v), -1, 40, MIN, MAX);
        refused("shot 0 of none", UNKNOWN, y -> y.lose(0), EMPTY);
        refused("shot 9 of nine", UNKNOWN, y -> y.lose(9), MIXED);
        says("STATE: it is LOST");
        refusedIn(MIXED, "lost from away, from in, from sent", STATE, (y, v) -> y.lose(v), 5, 7, 8);
    }

    private void where() {
        promise(12);
        says("WHERE a SHOT was as of an HOUR (0 to THE HOUR)");
        NewsreelHouse x = mixed();
        row("now", (y, shot) -> y.where(shot, 1005), x, 3, 3, 1, 2, 3, 4, 1, 4, 4);
        row("when they were told", (y, shot) -> y.where(shot, 1000), x, 3, 3, 1, 2, 3, 4, 1, 4, 4);
        row("an hour ahead", (y, shot) -> y.where(shot, 999), x, 0, 0, 0, 0, 0, 0, 0, 0, 0);
        row("at hour 0", (y, shot) -> y.where(shot, 0), x, 0, 0, 0, 0, 0, 0, 0, 0, 0);
        onlyAsks("where", y -> y.where(0, 0));
        says("UNKNOWN");
        refusedFor("shot", UNKNOWN, (y, v) -> y.where(v, 0), -1, 40, MIN, MAX);
        refused("shot 0 of none", UNKNOWN, y -> y.where(0, 0), EMPTY);
        refused("shot 9 of nine", UNKNOWN, y -> y.where(9, 0), MIXED);
        says("OUTSIDE");
        refusedIn(MIXED, "hour", OUTSIDE, (y, v) -> y.where(0, v), -1, 1006, 10000, MIN, MAX);
        refusedIn(CROWDED, "hour", OUTSIDE, (y, v) -> y.where(0, v), -1, 9991, 10000, MIN, MAX);
        x = at(9999);
        x.shot(0, 0, 1, 0, 0, 2);
        due("the last hour", x.where(0, 9999), 3);
    }

    private void overdue() {
        promise(13);
        says("How many SHOTS are SENT, and expected at worst ahead of THE HOUR");
        NewsreelHouse x = mixed();
        due("at 1005, expected at 1007", x.overdue(), 0);
        x.pass(2);
        due("at 1007", x.overdue(), 0);
        x.pass(1);
        due("at 1008: not the lost one", x.overdue(), 1);
        due("sent now", x.send(2), 1015);
        due("it is not overdue", x.overdue(), 1);
        x.pass(10);
        due("both", x.overdue(), 2);
        x.come(3);
        due("one has come", x.overdue(), 1);
        x.lose(2);
        due("one is lost", x.overdue(), 0);
        x = fresh();
        for (int i = 0; i < 40; i++) {
            x.shot(0, 0, 1, 0, 0, 0);
            x.send(i);
        }
        due("40 that are expected now", x.overdue(), 0);
        x.pass(1);
        due("an hour on", x.overdue(), 40);
        onlyAsks("overdue", y -> y.overdue());
    }

    private void fact() {
        promise(14);
        says("A FACT of a MARK: 1");
        NewsreelHouse x = fresh();
        due("the least of all", x.fact(0, 0, 0, 0), 1);
        due("the greatest of all", x.fact(7, 255, 364, 364), 1);
        due("round", x.fact(7, 255, 364, 0), 1);
        x.shot(0, 0, 1, 0, 1, 1);
        due("in no place", x.lie(0, 0, 0), 0);
        due("again", x.fact(0, 1, 0, 0), 1);
        due("in place of the fact that was", x.lie(0, 0, 0), NONE);
        says("UNKNOWN: mark");
        refusedFor("mark", UNKNOWN, (y, v) -> y.fact(v, 0, 0, 0), -1, 8, MIN, MAX);
        says("OUTSIDE: places (0 to 255), days (0 to 364)");
        refusedFor("places", OUTSIDE, (y, v) -> y.fact(0, v, 0, 0), -1, 256, MIN, MAX);
        refusedFor("from", OUTSIDE, (y, v) -> y.fact(3, 0, v, 0), -1, 365, MIN, MAX);
        refusedFor("to", OUTSIDE, (y, v) -> y.fact(7, 0, 0, v), -1, 365, MIN, MAX);
    }

    private void lie() {
        promise(15);
        says("The first MARK of a SHOT that can not be of a PLACE and HOUR");
        NewsreelHouse x = fresh();
        x.shot(0, 0, 1, 0, 0b11000000, 1);
        x.shot(0, 0, 1, 0, 255, 1);
        for (int mark = 0; mark < 8; mark++) {
            x.fact(mark, 1 << mark, 0, 364);
        }
        due("of two", x.lie(0, 0, 0), 6);
        due("the second", x.lie(0, 6, 0), 7);
        due("of all", x.lie(1, 1, 0), 0);
        due("not that of the place", x.lie(1, 0, 0), 1);
        due("hour 9999", x.lie(0, 7, 9999), 6);
        onlyAsks("lie", y -> y.lie(0, 7, 9999));
        says("NONE: it CAN BE");
        x.fact(7, 0b11000000, 0, 364);
        due("both can", x.lie(0, 6, 9999), NONE);
        x.shot(0, 0, 1, 0, 0, 1);
        due("no marks", x.lie(2, 0, 0), NONE);
        due("its own place and hour do not count", mixed().lie(0, 1, 0), NONE);
        says("UNKNOWN");
        refusedFor("shot", UNKNOWN, (y, v) -> y.lie(v, 0, 0), -1, 40, MIN, MAX);
        refused("shot 0 of none", UNKNOWN, y -> y.lie(0, 0, 0), EMPTY);
        refused("shot 9 of nine", UNKNOWN, y -> y.lie(9, 0, 0), MIXED);
        refusedFor("place", UNKNOWN, (y, v) -> y.lie(0, v, 0), -1, 8, MIN, MAX);
        says("OUTSIDE");
        refusedIn(MIXED, "hour", OUTSIDE, (y, v) -> y.lie(0, 0, v), -1, 10000, MIN, MAX);
        due("an hour that is to come", mixed().lie(0, 1, 24 * 375), NONE);
        due("an hour that is to come, out of season", mixed().lie(0, 1, 9999), 0);
    }

    private void find() {
        promise(16);
        says("The i-th SHOT (from 0) that is IN now, has all MARKS of a set, and was taken at FROM or later");
        NewsreelHouse x = mixed();
        row("all that are in", (y, i) -> y.find(0, 0, i), x, 0, 1, 4, NONE);
        row("mark 0", (y, i) -> y.find(1, 0, i), x, 0, 4, NONE);
        row("marks 0 and 1", (y, i) -> y.find(3, 0, i), x, 0, NONE);
        row("marks 0 and 2", (y, i) -> y.find(5, 0, i), x, NONE);
        row("taken at 100", (y, i) -> y.find(0, 100, i), x, 0, 1, 4, NONE);
        row("taken at 101", (y, i) -> y.find(0, 101, i), x, 1, 4, NONE);
        row("taken at 995", (y, i) -> y.find(0, 995, i), x, 4, NONE);
        x.come(3);
        row("come", (y, i) -> y.find(0, 0, i), x, 0, 1, 3, 4, NONE);
        x.lose(0);
        row("lost", (y, i) -> y.find(0, 0, i), x, 1, 3, 4, NONE);
        due("the last of 36", crowded().find(0, 0, 35), 35);
        x.shot(0, 0, 1, 0, 255, 2);
        row("all marks", (y, i) -> y.find(255, 0, i), x, 9, NONE);
        onlyAsks("find", y -> y.find(0, 0, 0));
        says("NONE: there is none such (i below 0, too)");
        for (int i : new int[] {-1, 3, 40, MIN, MAX}) {
            due("i " + i, mixed().find(0, 0, i), NONE);
        }
        due("of 36", crowded().find(0, 0, 36), NONE);
        due("of none", fresh().find(0, 0, 0), NONE);
        due("taken at 996 or later", mixed().find(0, 996, 0), NONE);
        due("from 9999 on", mixed().find(0, 9999, 0), NONE);
        says("OUTSIDE: marks, from");
        refusedFor("marks", OUTSIDE, (y, v) -> y.find(v, 0, 0), -1, 256, MIN, MAX);
        refusedFor("from", OUTSIDE, (y, v) -> y.find(0, v, 0), -1, 10000, MIN, MAX);
        refusedFor("marks, i below 0", OUTSIDE, (y, v) -> y.find(v, 0, -1), -1, 256);
    }

    private void story() {
        promise(17);
        says("A STORY: its number");
        NewsreelHouse x = fresh();
        due("the least of all", x.story(0, 0, 0, 0), 0);
        due("the greatest of all", x.story(15, 7, 9999, 999), 1);
        due("one like another", x.story(15, 7, 9999, 999), 2);
        says("UNKNOWN: place");
        refusedFor("place", UNKNOWN, (y, v) -> y.story(0, v, 0, 0), -1, 8, MIN, MAX);
        says("OUTSIDE: subject, hour, worth");
        refusedFor("subject", OUTSIDE, (y, v) -> y.story(v, 0, 0, 0), -1, 16, MIN, MAX);
        refusedFor("hour", OUTSIDE, (y, v) -> y.story(0, 0, v, 0), -1, 10000, MIN, MAX);
        refusedFor("worth", OUTSIDE, (y, v) -> y.story(0, 0, 0, v), -1, 1000, MIN, MAX);
        says("FULL: 8");
        refused("the ninth", FULL, y -> y.story(0, 0, 0, 0), CROWDED);
        row("the eight first", (y, i) -> y.story(i, 0, 0, 0), fresh(), 0, 1, 2, 3, 4, 5, 6, 7, FULL);
    }

    private void put() {
        promise(18);
        says("A SHOT comes behind a STORY: how many it has");
        NewsreelHouse x = mixed();
        due("the first", x.put(2, 1), 1);
        due("the second", x.put(2, 0), 2);
        due("behind", x.cut(2, 1), 0);
        due("one of its own that came", x.put(2, 4), 2);
        x.come(3);
        due("one that came now", x.put(2, 3), 3);
        due("which is in another story, too", x.put(1, 4), 2);
        says("UNKNOWN");
        refusedFor("story", UNKNOWN, (y, v) -> y.put(v, 0), -1, 8, MIN, MAX);
        refusedFor("shot", UNKNOWN, (y, v) -> y.put(0, v), -1, 40, MIN, MAX);
        refused("story 5 of five", UNKNOWN, y -> y.put(5, 0), MIXED);
        refused("shot 9 of nine", UNKNOWN, y -> y.put(2, 9), MIXED);
        says("STATE: the SHOT is not IN, or in it");
        refusedIn(MIXED, "away, sent, lost, away, kept and lost, sent and lost", STATE, (y, v) -> y.put(2, v), 2, 3, 5, 6, 7, 8);
        refusedIn(MIXED, "in it as the first, the last", STATE, (y, v) -> y.put(4, v), 4, 1);
        refused("in it, and lost", STATE, y -> y.put(3, 7), MIXED);
        refusedIn(CROWDED, "in it as one of six", STATE, (y, v) -> y.put(0, v), 0, 5);
        says("FULL: 6");
        refusedIn(CROWDED, "a seventh", FULL, (y, v) -> y.put(0, v), 6, 35);
        x = crowded();
        x.cut(0, 3);
        due("one is taken out", x.put(0, 6), 6);
        due("full again", x.put(0, 3), FULL);
    }

    private void cut() {
        promise(19);
        says("SHOT i of a STORY is taken out: which it was");
        NewsreelHouse x = crowded();
        due("the last of six", x.cut(1, 5), 9);
        due("the first", x.cut(1, 0), 4);
        due("the second", x.cut(1, 1), 6);
        row("what is left, in order", (y, i) -> y.cut(1, 0), x, 5, 7, 8, OUTSIDE);
        due("none is left", x.of(1, 0), 0);
        due("another story has it still", x.of(0, 0), 6);
        says("UNKNOWN: story");
        refusedFor("story", UNKNOWN, (y, v) -> y.cut(v, 0), -1, 8, MIN, MAX);
        refused("story 0 of none", UNKNOWN, y -> y.cut(0, 0), EMPTY);
        refused("story 5 of five", UNKNOWN, y -> y.cut(5, 0), MIXED);
        says("OUTSIDE: there is no such");
        refusedIn(MIXED, "of two", OUTSIDE, (y, v) -> y.cut(0, v), -1, 2, 5, 6, MIN, MAX);
        refusedIn(MIXED, "of none", OUTSIDE, (y, v) -> y.cut(2, v), -1, 0);
        refusedIn(CROWDED, "of six", OUTSIDE, (y, v) -> y.cut(7, v), -1, 6);
    }

    private void say() {
        promise(20);
        says("OLD ones of a STORY are SAID, or not: how it was: 1, 0");
        NewsreelHouse x = mixed();
        due("was said", x.say(0, false), 1);
        due("was not", x.say(0, true), 0);
        due("was said again", x.say(0, true), 1);
        due("another story", x.say(1, true), 0);
        due("a story without shots", x.say(2, true), 0);
        says("UNKNOWN");
        refusedFor("story", UNKNOWN, (y, v) -> y.say(v, true), -1, 8, MIN, MAX);
        refused("story 0 of none", UNKNOWN, y -> y.say(0, true), EMPTY);
        refused("story 5 of five", UNKNOWN, y -> y.say(5, true), MIXED);
    }

    private void must() {
        promise(21);
        says("A STORY MUST be shown, or not: how it was: 1, 0");
        NewsreelHouse x = mixed();
        due("must", x.must(1, false), 1);
        due("must not", x.must(1, true), 0);
        due("must again", x.must(1, true), 1);
        due("another story", x.must(0, true), 0);
        due("a story without shots", x.must(2, true), 0);
        says("UNKNOWN");
        refusedFor("story", UNKNOWN, (y, v) -> y.must(v, true), -1, 8, MIN, MAX);
        refused("story 0 of none", UNKNOWN, y -> y.must(0, true), EMPTY);
        refused("story 5 of five", UNKNOWN, y -> y.must(5, true), MIXED);
    }

    private void of() {
        promise(22);
        says("Of a STORY: how many SHOTS (what = 0), FEET (1), DISORDER or NONE (2), OLD ones (3), FALSE ones (4), LENT ones (5), "
            + "whether it is READY (6)");
        NewsreelHouse x = mixed();
        row("of shots 0 and 4", (y, what) -> y.of(0, what), x, 2, 320, 1, 1, 1, 0, 1);
        row("of shot 1", (y, what) -> y.of(1, what), x, 1, 150, NONE, 0, 1, 1, 1);
        row("of none", (y, what) -> y.of(2, what), x, 0, 0, NONE, 0, 0, 0, 0);
        row("of shots 4 and 7, which is lost", (y, what) -> y.of(3, what), x, 2, 233, 1, 1, 1, 0, 0);
        row("of shots 4 and 1", (y, what) -> y.of(4, what), x, 2, 350, 1, 0, 0, 1, 1);
        onlyAsks("of", y -> y.of(0, 2));
        says("UNKNOWN");
        refusedFor("story", UNKNOWN, (y, v) -> y.of(v, 0), -1, 8, MIN, MAX);
        refused("story 0 of none", UNKNOWN, y -> y.of(0, 0), EMPTY);
        refused("story 5 of five", UNKNOWN, y -> y.of(5, 0), MIXED);
        says("OUTSIDE");
        refusedIn(MIXED, "what", OUTSIDE, (y, v) -> y.of(0, v), -1, 7, MIN, MAX);
        refusedIn(MIXED, "what, of no shots", OUTSIDE, (y, v) -> y.of(2, v), -1, 7, MIN, MAX);
    }

    private void age() {
        promise(23);
        says("AGE: what it was");
        NewsreelHouse x = fresh();
        due("at first", x.age(0), 30);
        due("the least", x.age(400), 0);
        due("the greatest", x.age(400), 400);
        due("again", x.age(17), 400);
        says("OUTSIDE");
        refusedFor("days", OUTSIDE, (y, v) -> y.age(v), -1, 401, MIN, MAX);
    }

    private void cost() {
        promise(24);
        says("What its SHOTS cost: FEET times RATE of their KIND");
        NewsreelHouse x = mixed();
        due("kept and own", x.cost(0), 120 + 200 * 3);
        due("lent", x.cost(1), 150 * 50);
        due("none", x.cost(2), 0);
        due("own, and a kept one that is lost", x.cost(3), 200 * 3 + 33);
        x.rate(0, 0);
        x.rate(1, 99);
        due("at other rates", x.cost(0), 120 * 99);
        x = fresh();
        x.rate(2, 99);
        x.story(0, 0, 0, 0);
        for (int i = 0; i < 6; i++) {
            x.shot(0, 0, 900, 0, 0, 2);
            x.put(0, i);
        }
        due("the greatest", x.cost(0), 6 * 900 * 99);
        onlyAsks("cost", y -> y.cost(0));
        says("UNKNOWN");
        refusedFor("story", UNKNOWN, (y, v) -> y.cost(v), -1, 8, MIN, MAX);
        refused("story 0 of none", UNKNOWN, y -> y.cost(0), EMPTY);
        refused("story 5 of five", UNKNOWN, y -> y.cost(5), MIXED);
    }

    private void rate() {
        promise(25);
        says("RATE of a KIND (0 to 99; 3, 1, 5 at first): what it was");
        NewsreelHouse x = fresh();
        row("at first", (y, kind) -> y.rate(kind, 99), x, 3, 1, 5);
        row("the greatest", (y, kind) -> y.rate(kind, 0), x, 99, 99, 99);
        row("the least", (y, kind) -> y.rate(kind, 1), x, 0, 0, 0);
        says("OUTSIDE: kind, rate");
        refusedFor("kind", OUTSIDE, (y, v) -> y.rate(v, 0), -1, 3, MIN, MAX);
        refusedFor("rate", OUTSIDE, (y, v) -> y.rate(0, v), -1, 100, MIN, MAX);
        refusedFor("rate of kind 2", OUTSIDE, (y, v) -> y.rate(2, v), -1, 100, MIN, MAX);
    }

    private void rule() {
        promise(26);
        says("A RULE, in force from a DAY (0 to 416) on, without bytes: its number");
        NewsreelHouse x = fresh();
        due("day 0", x.rule(0), 0);
        due("day 416", x.rule(416), 1);
        due("without bytes", x.feed(1, 0L), 0);
        x.story(0, 0, 0, 0);
        Houses.feedText(x, 1, "s=0");
        due("not the day ahead", x.bars(0, 0, 415), NONE);
        due("from that day on", x.bars(0, 0, 416), 1);
        says("OUTSIDE");
        refusedFor("day", OUTSIDE, (y, v) -> y.rule(v), -1, 417, MIN, MAX);
        says("FULL: 6");
        refusedIn(CROWDED, "the seventh", FULL, (y, v) -> y.rule(v), 0, 416);
        row("the six first", (y, i) -> y.rule(i), fresh(), 0, 1, 2, 3, 4, 5, FULL);
        x = fresh();
        for (int i = 0; i < 6; i++) {
            x.rule(0);
            x.strike(i, 0);
        }
        due("struck ones count, too", x.rule(0), FULL);
    }

    private void feed() {
        promise(27);
        says("Bytes come behind a RULE, from the lowest on, up to a byte 0, or all 8: how long it is");
        NewsreelHouse x = fresh();
        x.rule(0);
        due("nothing", x.feed(0, 0L), 0);
        due("the lowest is 0", x.feed(0, 0x31003D7300L), 0);
        due("up to a byte 0", x.feed(0, 0x7C00313D73L), 3);
        due("in order", x.fault(0), NONE);
        due("all 8", x.feed(0, Houses.packed("&(p=1|l>")), 11);
        due("behind", x.fault(0), 11);
        due("seven", x.feed(0, Houses.packed("2)&!k=1")), 18);
        due("the whole", x.fault(0), NONE);
        due("bytes above 127", x.feed(0, -1L), 26);
        due("are no signs of a rule", x.fault(0), 18);
        due("a lowest byte above 127", x.feed(0, 0x80L), 27);
        due("a highest byte above 127", x.feed(0, Long.MIN_VALUE | 0x20202020202020L), 35);
        says("UNKNOWN");
        refusedFor("rule", UNKNOWN, (y, v) -> y.feed(v, 33L), -1, 6, MIN, MAX);
        refused("rule 0 of none", UNKNOWN, y -> y.feed(0, 33L), EMPTY);
        refused("rule 4 of four", UNKNOWN, y -> y.feed(4, 33L), MIXED);
        refusedFor("no bytes to a rule", UNKNOWN, (y, v) -> y.feed(v, 0L), -1, 6);
        says("FULL: they do not all fit (none comes)");
        refused("one behind 80", FULL, y -> y.feed(0, 33L), CROWDED);
        refused("eight behind 80", FULL, y -> y.feed(5, -1L), CROWDED);
        due("none behind 80", crowded().feed(0, 0L), 80);
        x = fresh();
        x.rule(0);
        Houses.feedText(x, 0, "s=1" + Houses.times(70, " "));
        due("eight behind 73", x.feed(0, Houses.packed("zzzzzzzz")), FULL);
        due("none came", x.feed(0, 0L), 73);
        due("none came: no fault", x.fault(0), NONE);
        due("seven behind 73", x.feed(0, Houses.packed("       ")), 80);
        due("one behind 80", x.feed(0, 32L), FULL);
        due("eight behind 72 fit", feedAgain(72), 80);
    }

    private static int feedAgain(int first) {
        NewsreelHouse x = fresh();
        x.rule(0);
        Houses.feedText(x, 0, Houses.times(first, " "));
        return x.feed(0, 0x2020202020202020L);
    }

    private void fault() {
        promise(28);
        says("Its FAULT");
        due("without bytes", faultOf(""), 0);
        due("of mixed rule 2", mixed().fault(2), 4);
        due("at the first byte", faultOf("?s=1"), 0);
        due("at the last byte", faultOf("s=1?"), 3);
        due("behind the last byte", faultOf("s=1|"), 4);
        onlyAsks("fault", y -> y.fault(2));
        says("NONE: it has none");
        due("of mixed rule 0", mixed().fault(0), NONE);
        due("of one that is struck", mixed().fault(3), NONE);
        due("of 80 bytes", crowded().fault(0), NONE);
        due("of 3 bytes", faultOf("k<0"), NONE);
        says("UNKNOWN");
        refusedFor("rule", UNKNOWN, (y, v) -> y.fault(v), -1, 6, MIN, MAX);
        refused("rule 0 of none", UNKNOWN, y -> y.fault(0), EMPTY);
        refused("rule 4 of four", UNKNOWN, y -> y.fault(4), MIXED);
    }

    private void strike() {
        promise(29);
        says("It is STRUCK from a DAY on: 1");
        NewsreelHouse x = crowded();
        due("day 0", x.strike(0, 0), 1);
        due("day 416", x.strike(5, 416), 1);
        due("ahead of its own day", x.strike(4, 1), 1);
        x = mixed();
        due("rule 0 bars", x.bars(0, 0, 41), 0);
        x.strike(0, 41);
        due("not from that day on", x.bars(0, 0, 41), NONE);
        due("but the day ahead", x.bars(0, 0, 40), 0);
        says("UNKNOWN");
        refusedFor("rule", UNKNOWN, (y, v) -> y.strike(v, 0), -1, 6, MIN, MAX);
        refused("rule 0 of none", UNKNOWN, y -> y.strike(0, 0), EMPTY);
        refused("rule 4 of four", UNKNOWN, y -> y.strike(4, 0), MIXED);
        says("OUTSIDE");
        refusedIn(MIXED, "day", OUTSIDE, (y, v) -> y.strike(0, v), -1, 417, MIN, MAX);
        refusedIn(CROWDED, "day", OUTSIDE, (y, v) -> y.strike(0, v), -1, 417, MIN, MAX);
        says("STATE: it is");
        refusedIn(MIXED, "again, from a day on", STATE, (y, v) -> y.strike(3, v), 0, 39, 40, 41, 416);
        x = fresh();
        x.rule(0);
        x.strike(0, 0);
        due("struck from day 0 on", x.strike(0, 0), STATE);
    }

    private void bars() {
        promise(30);
        says("The first RULE that BARS a STORY in a LAND on a DAY");
        NewsreelHouse x = fresh();
        x.story(1, 0, 0, 0);
        for (int i = 0; i < 6; i++) {
            x.rule(50 - 10 * i);
            Houses.feedText(x, i, i == 3 ? "s=2" : "s=1");
        }
        due("day 0", x.bars(0, 0, 0), 5);
        due("day 9", x.bars(0, 0, 9), 5);
        due("day 10", x.bars(0, 0, 10), 4);
        due("day 20: rule 3 does not hold", x.bars(0, 0, 20), 4);
        due("day 49", x.bars(0, 0, 49), 1);
        due("day 416, the last land", x.bars(0, 4, 416), 0);
        onlyAsks("bars", y -> y.bars(0, 0, 0));
        says("NONE");
        x.story(3, 0, 0, 0);
        due("none holds", x.bars(1, 0, 416), NONE);
        due("there is none", crowded().bars(7, 4, 0), NONE);
        says("UNKNOWN: story, land");
        refusedFor("story", UNKNOWN, (y, v) -> y.bars(v, 0, 0), -1, 8, MIN, MAX);
        refused("story 0 of none", UNKNOWN, y -> y.bars(0, 0, 0), EMPTY);
        refused("story 5 of five", UNKNOWN, y -> y.bars(5, 0, 0), MIXED);
        refusedFor("land", UNKNOWN, (y, v) -> y.bars(0, v, 0), -1, 5, MIN, MAX);
        says("OUTSIDE");
        refusedIn(MIXED, "day", OUTSIDE, (y, v) -> y.bars(0, 0, v), -1, 417, MIN, MAX);
        refusedIn(CROWDED, "day", OUTSIDE, (y, v) -> y.bars(7, 4, v), -1, 417, MIN, MAX);
    }

    private void reserve() {
        promise(31);
        says("A SUBJECT is RESERVED, or FREE: how it was: 1, 0");
        NewsreelHouse x = fresh();
        due("the first", x.reserve(0, true), 0);
        due("the last", x.reserve(15, true), 0);
        due("again", x.reserve(15, true), 1);
        due("free", x.reserve(15, false), 1);
        due("free again", x.reserve(15, false), 0);
        due("the first stays", x.reserve(0, false), 1);
        due("one of mixed", mixed().reserve(1, false), 1);
        says("OUTSIDE");
        refusedFor("subject", OUTSIDE, (y, v) -> y.reserve(v, true), -1, 16, 32, MIN, MAX);
        refusedFor("subject, free", OUTSIDE, (y, v) -> y.reserve(v, false), -1, 16, 33, MIN, MAX);
    }

    private void right() {
        promise(32);
        says("A RIGHT: its number");
        NewsreelHouse x = fresh();
        due("the least of all", x.right(0, 0, 0, 0, 1), 0);
        due("the greatest of all", x.right(15, 31, 416, 416, 99), 1);
        due("all days", x.right(15, 31, 0, 416, 99), 2);
        due("to a free subject, too", x.left(2), 99);
        says("OUTSIDE: subject, lands (0 to 31), days (to not below from), showings");
        refusedFor("subject", OUTSIDE, (y, v) -> y.right(v, 31, 0, 0, 1), -1, 16, MIN, MAX);
        refusedFor("lands", OUTSIDE, (y, v) -> y.right(0, v, 0, 0, 1), -1, 32, MIN, MAX);
        refusedFor("from", OUTSIDE, (y, v) -> y.right(0, 31, v, 416, 1), -1, 417, MIN, MAX);
        refusedFor("to", OUTSIDE, (y, v) -> y.right(0, 31, 0, v, 1), -1, 417, MIN, MAX);
        refusedFor("both", OUTSIDE, (y, v) -> y.right(0, 31, v, v, 1), -1, 417, MIN, MAX);
        refusedFor("to below from 100", OUTSIDE, (y, v) -> y.right(0, 31, 100, v, 1), 99, 0);
        refusedFor("showings", OUTSIDE, (y, v) -> y.right(0, 31, 0, 0, v), 0, -1, 100, MIN, MAX);
        due("to as from", fresh().right(0, 31, 100, 100, 1), 0);
        says("FULL: 8");
        refused("the ninth", FULL, y -> y.right(0, 31, 0, 416, 99), CROWDED);
        row("the eight first", (y, i) -> y.right(i, 31, 0, 0, 1), fresh(), 0, 1, 2, 3, 4, 5, 6, 7, FULL);
        x = withStories(new int[] {5}, new int[] {100});
        x.reserve(0, true);
        for (int i = 0; i < 8; i++) {
            x.right(0, 31, 0, 416, 1);
            due("it is used up", x.show(0, 0), 1);
        }
        due("those without showings left count, too", x.right(0, 31, 0, 416, 1), FULL);
    }

    private void left() {
        promise(33);
        says("SHOWINGS that are left of a RIGHT");
        row("at first", (y, right) -> y.left(right), crowded(), 1, 2, 3, 4, 5, 6, 7, 8, UNKNOWN);
        NewsreelHouse x = withStories(new int[] {5}, new int[] {100});
        x.reserve(0, true);
        x.right(0, 31, 0, 416, 99);
        for (int i = 98; i >= 0; i--) {
            x.show(0, 0);
            due("one less", x.left(0), i);
        }
        due("no reel any more", x.show(0, 0), STATE);
        due("not below 0", x.left(0), 0);
        onlyAsks("left", y -> y.left(0));
        says("UNKNOWN");
        refusedFor("right", UNKNOWN, (y, v) -> y.left(v), -1, 8, MIN, MAX);
        refused("right 0 of none", UNKNOWN, y -> y.left(0), EMPTY);
        refused("right 3 of three", UNKNOWN, y -> y.left(3), MIXED);
    }

    private void allowed() {
        promise(34);
        says("Whether a STORY is ALLOWED: 1, 0");
        row("story 0: barred in land 0", (y, land) -> y.allowed(0, land, 41), mixed(), 0, 1, 1, 1, 1);
        row("story 1: no right in land 4; struck rule", (y, land) -> y.allowed(1, land, 41), mixed(), 1, 1, 1, 1, 0);
        row("story 1: barred in land 1", (y, land) -> y.allowed(1, land, 39), mixed(), 1, 0, 1, 1, 0);
        due("the last day of its right", mixed().allowed(1, 0, 100), 1);
        due("the day behind", mixed().allowed(1, 0, 101), 0);
        due("a story without shots", mixed().allowed(2, 0, 0), 1);
        due("one that is not ready", mixed().allowed(3, 0, 0), 1);
        due("the last day", mixed().allowed(4, 4, 416), 1);
        onlyAsks("allowed", y -> y.allowed(0, 0, 41));
        says("UNKNOWN: story, land");
        refusedFor("story", UNKNOWN, (y, v) -> y.allowed(v, 0, 0), -1, 8, MIN, MAX);
        refused("story 0 of none", UNKNOWN, y -> y.allowed(0, 0, 0), EMPTY);
        refused("story 5 of five", UNKNOWN, y -> y.allowed(5, 0, 0), MIXED);
        refusedFor("land", UNKNOWN, (y, v) -> y.allowed(0, v, 0), -1, 5, MIN, MAX);
        says("OUTSIDE");
        refusedIn(MIXED, "day", OUTSIDE, (y, v) -> y.allowed(0, 0, v), -1, 417, MIN, MAX);
        refusedIn(CROWDED, "day", OUTSIDE, (y, v) -> y.allowed(7, 4, v), -1, 417, MIN, MAX);
    }

    private void length() {
        promise(35);
        says("LEAST (most = false), MOST: what it was");
        NewsreelHouse x = fresh();
        due("LEAST at first", x.length(false, 1), 100);
        due("MOST at first", x.length(true, 3000), 900);
        due("LEAST was 1", x.length(false, 3000), 1);
        due("MOST was 3000, and may be as LEAST", x.length(true, 3000), 3000);
        due("LEAST was 3000", x.length(false, 1), 3000);
        due("MOST may be 1", x.length(true, 1), 3000);
        due("MOST was 1", x.length(true, 2), 1);
        says("OUTSIDE");
        refusedFor("LEAST", OUTSIDE, (y, v) -> y.length(false, v), 0, -1, 3001, MIN, MAX);
        refusedFor("MOST", OUTSIDE, (y, v) -> y.length(true, v), 0, -1, 3001, MIN, MAX);
        says("STATE: LEAST would be above MOST");
        refusedIn(EMPTY, "LEAST", STATE, (y, v) -> y.length(false, v), 901, 3000);
        refusedIn(EMPTY, "MOST", STATE, (y, v) -> y.length(true, v), 99, 1);
        refusedIn(MIXED, "LEAST", STATE, (y, v) -> y.length(false, v), 701, 3000);
        refusedIn(MIXED, "MOST", STATE, (y, v) -> y.length(true, v), 89, 1);
        due("LEAST as MOST", fresh().length(false, 900), 100);
        due("MOST as LEAST", fresh().length(true, 100), 900);
    }

    private void apart() {
        promise(36);
        says("Two STORIES are APART, or not: how it was: 1, 0");
        NewsreelHouse x = crowded();
        for (int a = 0; a < 8; a++) {
            for (int b = 0; b < a; b++) {
                due("not at first", x.apart(a, b, true), 0);
                due("the other way round", x.apart(b, a, true), 1);
            }
        }
        due("not any more", x.apart(7, 0, false), 1);
        due("the other way round neither", x.apart(0, 7, false), 0);
        due("others still", x.apart(7, 1, false), 1);
        says("UNKNOWN");
        refusedFor("a", UNKNOWN, (y, v) -> y.apart(v, 0, true), -1, 8, MIN, MAX);
        refusedFor("b", UNKNOWN, (y, v) -> y.apart(0, v, true), -1, 8, MIN, MAX);
        refusedFor("both", UNKNOWN, (y, v) -> y.apart(v, v, true), -1, 8);
        refused("a 5 of five", UNKNOWN, y -> y.apart(5, 0, true), MIXED);
        refused("b 5 of five", UNKNOWN, y -> y.apart(0, 5, true), MIXED);
        says("STATE: they are one");
        refusedIn(MIXED, "story", STATE, (y, v) -> y.apart(v, v, true), 0, 4);
        refusedIn(CROWDED, "story", STATE, (y, v) -> y.apart(v, v, false), 0, 7);
    }

    private void rival() {
        promise(37);
        says("THE RIVAL HAS a SUBJECT, or not: how it was: 1, 0");
        NewsreelHouse x = fresh();
        row("not at first", (y, subject) -> y.rival(subject, true), x, 0, 0, 0, 0, 0, 0, 0, 0, 0, 0, 0, 0, 0, 0, 0, 0);
        row("has", (y, subject) -> y.rival(subject, subject < 8), x, 1, 1, 1, 1, 1, 1, 1, 1, 1, 1, 1, 1, 1, 1, 1, 1);
        row("the last eight not", (y, subject) -> y.rival(subject, false), x, 1, 1, 1, 1, 1, 1, 1, 1, 0, 0, 0, 0, 0, 0, 0, 0);
        says("OUTSIDE");
        refusedFor("subject", OUTSIDE, (y, v) -> y.rival(v, true), -1, 16, 32, MIN, MAX);
        refusedFor("subject, not", OUTSIDE, (y, v) -> y.rival(v, false), -1, 16, 36, MIN, MAX);
    }

    private void reel() {
        promise(38);
        says("WORTH of THE BEST REEL");
        NewsreelHouse x = mixed();
        due("land 1: 0 and 4 with 1, which must, between none: 1 alone", x.reel(1, 41), 41);
        due("land 0 on day 41", x.reel(0, 41), 41);
        x.must(1, false);
        due("0 and 4, half of it", x.reel(1, 41), 50 + 38);
        due("4 alone where 0 is barred, or 1", x.reel(0, 41), 41);
        due("worth 0", withStories(new int[] {0}, new int[] {100}).reel(0, 0), 0);
        due("the last land and day", withStories(new int[] {7}, new int[] {100}).reel(4, 416), 7);
        onlyAsks("reel", y -> y.reel(0, 41));
        says("NONE: there is none");
        due("no story", fresh().reel(0, 0), NONE);
        due("too short", withStories(new int[] {7}, new int[] {99}).reel(0, 0), NONE);
        x = fresh();
        x.story(0, 0, 0, 9);
        due("no shots", x.reel(0, 0), NONE);
        x = withStories(new int[] {5, 5}, new int[] {600, 600});
        x.must(0, true);
        x.must(1, true);
        due("two that must are too long", x.reel(0, 0), NONE);
        x.length(true, 1200);
        x.apart(0, 1, true);
        due("or apart", x.reel(0, 0), NONE);
        x.apart(0, 1, false);
        due("or not", x.reel(0, 0), 10);
        says("UNKNOWN: land");
        refusedFor("land", UNKNOWN, (y, v) -> y.reel(v, 0), -1, 5, MIN, MAX);
        says("OUTSIDE");
        refusedFor("day", OUTSIDE, (y, v) -> y.reel(0, v), -1, 417, MIN, MAX);
    }

    private void reelAt() {
        promise(39);
        says("STORY i of THE BEST REEL");
        NewsreelHouse x = mixed();
        x.must(1, false);
        row("land 1", (y, i) -> y.reelAt(1, 41, i), x, 0, 4, NONE);
        row("land 0", (y, i) -> y.reelAt(0, 41, i), x, 1, NONE);
        int[] tens = {10, 10, 10, 10, 10, 10, 10, 10};
        NewsreelHouse z = withStories(tens, tens);
        z.length(false, 80);
        row("eight", (y, i) -> y.reelAt(4, 416, i), z, 0, 1, 2, 3, 4, 5, 6, 7, NONE);
        z.lose(0);
        due("as it is now", z.reelAt(4, 416, 0), NONE);
        onlyAsks("reelAt", y -> y.reelAt(0, 41, 0));
        says("NONE");
        for (int i : new int[] {-1, 1, 8, 15, MIN, MAX}) {
            due("i " + i + " of one", x.reelAt(0, 41, i), NONE);
        }
        due("no reel", fresh().reelAt(0, 0, 0), NONE);
        says("UNKNOWN");
        refusedFor("land", UNKNOWN, (y, v) -> y.reelAt(v, 0, 0), -1, 5, MIN, MAX);
        says("OUTSIDE");
        refusedFor("day", OUTSIDE, (y, v) -> y.reelAt(0, v, 0), -1, 417, MIN, MAX);
        refusedFor("day, i below 0", OUTSIDE, (y, v) -> y.reelAt(0, v, -1), -1, 417);
    }

    private static final String JUDGE = "What a row of STORIES lacks to be a REEL: each is a figure of row to the base 16 less 1, from the lowest on, "
        + "up to a figure 0: 0 nothing, 1 there is no such STORY, or it is twice, 2 one is not READY, 3 not ALLOWED, 4 two that are APART are "
        + "side by side, 5 FEET, 6 one that MUST (the first of these)";

    private void judge() {
        promise(40);
        says(JUDGE);
        int[] hundreds = {100, 100, 100, 100, 100, 100, 100, 100};
        NewsreelHouse x = withStories(hundreds, hundreds);
        due("eight", x.judge(0, 0, 0x87654321L), 0);
        due("eight the other way round", x.judge(0, 0, 0x12345678L), 0);
        due("eight, and what is behind a 0", x.judge(0, 0, 0xF012345678L), 0);
        due("no story 8", x.judge(0, 0, 0x987654321L), 1);
        due("no story 14", x.judge(0, 0, 0xFL), 1);
        due("twice, far from one another", x.judge(0, 0, 0x187654321L), 1);
        due("twice at once", x.judge(0, 0, 0x11L), 1);
        due("sixteen figures", x.judge(0, 0, 0x8765432187654321L), 1);
        due("all figures 15", x.judge(0, 0, -1L), 1);
        due("the highest figure alone", x.judge(0, 0, Long.MIN_VALUE), 5);
        due("a figure behind a 0", x.judge(0, 0, 0x20L), 5);
        due("no figure", x.judge(0, 0, 0L), 5);
        due("the last story alone", x.judge(0, 0, 8L), 0);
        due("of a house without stories", fresh().judge(0, 0, 1L), 1);
        due("a row of none of them", fresh().judge(0, 0, 0L), 5);
        onlyAsks("judge", y -> y.judge(1, 41, 0x51L));
        says("UNKNOWN: land");
        refusedFor("land", UNKNOWN, (y, v) -> y.judge(v, 0, 1L), -1, 5, MIN, MAX);
        says("OUTSIDE: day");
        refusedFor("day", OUTSIDE, (y, v) -> y.judge(0, v, 1L), -1, 417, MIN, MAX);
    }

    private void judgeOrder() {
        says(JUDGE);
        NewsreelHouse x = withStories(new int[] {1, 1, 1, 1, 1, 1}, new int[] {100, 100, 100, 100, 100, 900});
        x.lose(0);
        x.reserve(1, true);
        x.apart(2, 3, true);
        x.must(4, true);
        due("0: nothing", x.judge(0, 0, 0x35L), 0);
        due("6: one that must", x.judge(0, 0, 0x3L), 6);
        due("5 ahead of 6", x.judge(0, 0, 0x36L), 5);
        due("5: too long", x.judge(0, 0, 0x56L), 5);
        due("4 ahead of 5", x.judge(0, 0, 0x6543L), 4);
        due("4: the other way round", x.judge(0, 0, 0x534L), 4);
        due("not 4: one between", x.judge(0, 0, 0x354L), 0);
        due("3 ahead of 4", x.judge(0, 0, 0x5432L), 3);
        due("3 at the end ahead of 4", x.judge(0, 0, 0x2543L), 3);
        due("2 ahead of 3", x.judge(0, 0, 0x12L), 2);
        due("2 at the head", x.judge(0, 0, 0x51L), 2);
        due("1 ahead of 2", x.judge(0, 0, 0x71L), 1);
        due("1 twice, ahead of 2", x.judge(0, 0, 0x11L), 1);
        due("1 at the end ahead of all", x.judge(0, 0, 0x7_6432_1L), 1);
        x.must(0, true);
        x.must(1, true);
        due("one that must and is not ready or allowed is not lacking", x.judge(0, 0, 0x35L), 0);
        x.length(false, 201);
        due("too short", x.judge(0, 0, 0x35L), 5);
    }

    private void show() {
        promise(41);
        says("THE BEST REEL is SHOWN: how many SHOWINGS it took");
        NewsreelHouse x = mixed();
        due("story 1 of subject 2", x.show(0, 41), 1);
        row("of right 1", (y, right) -> y.left(right), x, 3, 1, 1);
        due("and again", x.show(3, 41), 1);
        row("none is left of it", (y, right) -> y.left(right), x, 3, 0, 1);
        due("on day 50 there is another one", x.show(0, 50), 1);
        row("and not any more", (y, right) -> y.left(right), x, 3, 0, 0);
        due("story 4, free, alone in land 0", x.show(0, 41), 0);
        due("stories 0 and 4 in land 1", x.show(1, 41), 1);
        row("of right 0", (y, right) -> y.left(right), x, 2, 0, 0);
        due("a reel of worth 0", withStories(new int[] {0}, new int[] {100}).show(4, 416), 0);
        says("UNKNOWN");
        refusedFor("land", UNKNOWN, (y, v) -> y.show(v, 0), -1, 5, MIN, MAX);
        says("OUTSIDE");
        refusedFor("day", OUTSIDE, (y, v) -> y.show(0, v), -1, 417, MIN, MAX);
        says("STATE: there is none");
        refused("no story", STATE, y -> y.show(4, 416), EMPTY);
        x = withStories(new int[] {1, 1}, new int[] {50, 49});
        x.reserve(0, true);
        x.right(0, 31, 0, 416, 5);
        due("too short", x.show(0, 0), STATE);
        due("no showing is taken", x.left(0), 5);
    }

    private void man() {
        promise(42);
        says("A MAN is at a PLACE from an HOUR on: 1");
        NewsreelHouse x = fresh();
        x.event(7, 9999, 5);
        due("the least of all", x.man(0, 0, 0), 1);
        due("the greatest of all", x.man(3, 7, 9999), 1);
        due("just there", x.cover(), 5);
        due("sent elsewhere", x.man(3, 6, 9999), 1);
        due("not there any more", x.cover(), 0);
        says("UNKNOWN: man, place");
        refusedFor("man", UNKNOWN, (y, v) -> y.man(v, 0, 0), -1, 4, MIN, MAX);
        refusedFor("place", UNKNOWN, (y, v) -> y.man(0, v, 0), -1, 8, MIN, MAX);
        refusedFor("place of man 3", UNKNOWN, (y, v) -> y.man(3, v, 0), -1, 8);
        says("OUTSIDE");
        refusedFor("hour", OUTSIDE, (y, v) -> y.man(0, 0, v), -1, 10000, MIN, MAX);
    }

    private void event() {
        promise(43);
        says("An EVENT: its number");
        NewsreelHouse x = fresh();
        due("the least of all", x.event(0, 0, 1), 0);
        due("the greatest of all", x.event(7, 9999, 999), 1);
        due("one like another", x.event(7, 9999, 999), 2);
        says("UNKNOWN: place");
        refusedFor("place", UNKNOWN, (y, v) -> y.event(v, 0, 1), -1, 8, MIN, MAX);
        says("OUTSIDE");
        refusedFor("hour", OUTSIDE, (y, v) -> y.event(0, v, 1), -1, 10000, MIN, MAX);
        refusedFor("worth", OUTSIDE, (y, v) -> y.event(0, 0, v), 0, -1, 1000, MIN, MAX);
        says("FULL: 8");
        refused("the ninth", FULL, y -> y.event(0, 9000, 999), CROWDED);
        row("the eight first", (y, i) -> y.event(i % 8, 0, 1), fresh(), 0, 1, 2, 3, 4, 5, 6, 7, FULL);
    }

    private void cover() {
        promise(44);
        says("WORTH of COVER");
        due("no events, no men", fresh().cover(), 0);
        NewsreelHouse x = fresh();
        for (int man = 0; man < 4; man++) {
            x.man(man, 0, 0);
        }
        due("men, no events", x.cover(), 0);
        x = fresh();
        for (int i = 0; i < 8; i++) {
            x.event(0, 9999 - 7 * i, 999);
        }
        due("events, no men", x.cover(), 0);
        x.man(2, 0, 9999 - 49);
        due("eight events, one man who is there", x.cover(), 8 * 999);
        x.man(2, 0, 9999 - 48);
        due("an hour later", x.cover(), 7 * 999);
        x.man(2, 0, 9999);
        due("at the last hour", x.cover(), 999);
        due("mixed: man 0 goes to place 1 (5 and 3) and not home (7), man 3 stays at his place (9)", mixed().cover(), 5 + 3 + 9);
        onlyAsks("cover", y -> y.cover());
    }

    private void covered() {
        promise(45);
        says("Whether an EVENT is in all COVERS of that WORTH (2), in some (1), in none (0)");
        NewsreelHouse x = fresh();
        x.man(0, 0, 0);
        x.way(0, 1, 0, 500, 10, 0);
        x.way(0, 2, 0, 500, 10, 0);
        x.event(0, 0, 1);
        x.event(1, 10, 5);
        x.event(2, 10, 5);
        row("at home, and one of two", (y, event) -> y.covered(event), x, 2, 1, 1);
        x.event(2, 11, 1);
        row("two against one", (y, event) -> y.covered(event), x, 2, 0, 2, 2);
        x.event(1, 12, 1);
        row("two against two", (y, event) -> y.covered(event), x, 2, 1, 1, 1, 1);
        x.man(3, 0, 0);
        row("two men", (y, event) -> y.covered(event), x, 2, 2, 2, 2, 2);
        x.event(5, 20, 999);
        row("one that nobody can reach", (y, event) -> y.covered(event), x, 2, 2, 2, 2, 2, 0);
        x.man(0, 7, 0);
        x.man(3, 7, 0);
        row("nobody can reach any of them any more", (y, event) -> y.covered(event), x, 0, 0, 0, 0, 0, 0);
        x.man(0, 5, 0);
        row("the last one alone", (y, event) -> y.covered(event), x, 0, 0, 0, 0, 0, 2);
        due("of a cover of 0", crowdedWithoutMen(), 0);
        onlyAsks("covered", y -> y.covered(0));
        says("UNKNOWN");
        refusedFor("event", UNKNOWN, (y, v) -> y.covered(v), -1, 8, MIN, MAX);
        refused("event 0 of none", UNKNOWN, y -> y.covered(0), EMPTY);
        refused("event 4 of four", UNKNOWN, y -> y.covered(4), MIXED);
    }

    private static int crowdedWithoutMen() {
        NewsreelHouse x = fresh();
        int sum = 0;
        for (int i = 0; i < 8; i++) {
            x.event(i, 100, 5);
        }
        for (int i = 0; i < 8; i++) {
            sum += x.covered(i);
        }
        return sum;
    }

    private void hall() {
        promise(46);
        says("A HALL: its number");
        NewsreelHouse x = fresh();
        due("the least of all", x.hall(0, 0, 0, 1), 0);
        due("the greatest of all", x.hall(4, 8, 8, 9999), 1);
        due("all weeks", x.hall(4, 0, 8, 9999), 2);
        says("UNKNOWN: land");
        refusedFor("land", UNKNOWN, (y, v) -> y.hall(v, 0, 0, 1), -1, 5, MIN, MAX);
        says("OUTSIDE: weeks, take");
        refusedFor("from", OUTSIDE, (y, v) -> y.hall(0, v, 8, 1), -1, 9, MIN, MAX);
        refusedFor("to", OUTSIDE, (y, v) -> y.hall(0, 0, v, 1), -1, 9, MIN, MAX);
        refusedFor("both", OUTSIDE, (y, v) -> y.hall(0, v, v, 1), -1, 9, MIN, MAX);
        refusedFor("to below from 5", OUTSIDE, (y, v) -> y.hall(0, 5, v, 1), 4, 0);
        refusedFor("take", OUTSIDE, (y, v) -> y.hall(0, 0, 0, v), 0, -1, 10000, MIN, MAX);
        says("FULL: 8");
        refused("the ninth", FULL, y -> y.hall(0, 0, 8, 9999), CROWDED);
        row("the eight first", (y, i) -> y.hall(0, i, 8, 1), fresh(), 0, 1, 2, 3, 4, 5, 6, 7, FULL);
    }

    private void part() {
        promise(47);
        says("PART of a WEEK: what it was");
        NewsreelHouse x = fresh();
        due("week 0 at first", x.part(0, 0), 100);
        due("week 8 at first", x.part(8, 1), 100);
        due("week 0", x.part(0, 100), 0);
        due("week 8", x.part(8, 99), 1);
        due("week 8 again", x.part(8, 99), 99);
        x.hall(0, 8, 8, 100);
        due("it counts", x.run(), 99);
        x.part(8, 98);
        due("at once", x.run(), 98);
        says("OUTSIDE");
        refusedFor("week", OUTSIDE, (y, v) -> y.part(v, 50), -1, 9, MIN, MAX);
        refusedFor("part", OUTSIDE, (y, v) -> y.part(0, v), -1, 101, MIN, MAX);
        refusedFor("part of week 8", OUTSIDE, (y, v) -> y.part(8, v), -1, 101, MIN, MAX);
    }

    private void prints() {
        promise(48);
        says("How many PRINTS there are: how many there were");
        NewsreelHouse x = fresh();
        due("at first", x.prints(8), 1);
        due("the most", x.prints(0), 8);
        due("the least", x.prints(3), 0);
        due("again", x.prints(3), 3);
        for (int i = 0; i < 4; i++) {
            x.hall(0, 2, 2, 10);
        }
        due("they count", x.run(), 30);
        x.prints(4);
        due("at once", x.run(), 40);
        says("OUTSIDE");
        refusedFor("prints", OUTSIDE, (y, v) -> y.prints(v), -1, 9, MIN, MAX);
    }

    private void run() {
        promise(49);
        says("What THE BEST RUN earns");
        due("no halls", fresh().run(), 0);
        NewsreelHouse x = fresh();
        for (int i = 0; i < 8; i++) {
            x.hall(i % 5, i, i, 9999);
        }
        due("the most", x.run(), 8 * 9999);
        x.prints(0);
        due("no prints", x.run(), 0);
        x.prints(1);
        for (int week = 0; week < 9; week++) {
            x.part(week, 0);
        }
        due("no parts", x.run(), 0);
        due("mixed: 100 in week 0, 150, 77", mixed().run(), 327);
        onlyAsks("run", y -> y.run());
    }

    private void week() {
        promise(50);
        says("The WEEK of a HALL in it");
        NewsreelHouse x = fresh();
        x.hall(0, 0, 8, 10);
        due("the first week", x.week(0), 0);
        row("parts", (y, week) -> y.part(week, week == 8 ? 100 : 50), x, 100, 100, 100, 100, 100, 100, 100, 100, 100);
        due("the last week", x.week(0), 8);
        row("mixed", (y, hall) -> y.week(hall), mixed(), 0, 1, 0);
        onlyAsks("week", y -> y.week(0));
        says("NONE");
        x.hall(0, 8, 8, 11);
        due("the first steps aside: 5 and 11", x.week(0), 0);
        x.hall(0, 8, 8, 11);
        row("the third has none", (y, hall) -> y.week(hall), x, 0, 8, NONE);
        x.prints(0);
        row("no prints", (y, hall) -> y.week(hall), x, NONE, NONE, NONE);
        says("UNKNOWN");
        refusedFor("hall", UNKNOWN, (y, v) -> y.week(v), -1, 8, MIN, MAX);
        refused("hall 0 of none", UNKNOWN, y -> y.week(0), EMPTY);
        refused("hall 3 of three", UNKNOWN, y -> y.week(3), MIXED);
    }

    private void count() {
        promise(51);
        says("0 SHOTS, 1 those that are IN, 2 STORIES, 3 RULES, 4 RIGHTS, 5 EVENTS, 6 HALLS, 7 THE HOUR");
        row("of none", (y, what) -> y.count(what), fresh(), 0, 0, 0, 0, 0, 0, 0, 0);
        row("mixed", (y, what) -> y.count(what), mixed(), 9, 3, 5, 4, 3, 4, 3, 1005);
        row("crowded", (y, what) -> y.count(what), crowded(), 40, 36, 8, 6, 8, 8, 8, 9990);
        due("the last hour", at(9999).count(7), 9999);
        onlyAsks("count", y -> y.count(1));
        says("OUTSIDE");
        refusedFor("what", OUTSIDE, (y, v) -> y.count(v), -1, 8, MIN, MAX);
    }
}
