/** The edges that the document's terms name, sentence by sentence. */
final class TermEdges extends Edges {
    TermEdges(Sentences sentences) {
        super(sentences);
    }

    void all() {
        promise(0);
        calls();
        refusals();
        hoursAndPlaces();
        ways();
        arrivals();
        shots();
        facts();
        stories();
        rulesInForce();
        grammar();
        letters();
        faults();
        rights();
        reels();
        bestReel();
        showings();
        men();
        halls();
        bestRun();
    }

    private void calls() {
        says("An object is used for at most 512 calls after it has been made");
        NewsreelHouse x = fresh();
        for (int i = 1; i <= 511; i++) {
            due("call " + i, x.pass(1), i);
        }
        due("the 512th call", x.count(7), 511);
        says("what later calls answer is free");
        for (int part = 0; part < Houses.TRACE_PARTS; part++) {
            due("later calls end, and nothing is thrown", Houses.trace(x, part).isEmpty() ? 1 : 0, 0);
        }
    }

    // ---- refusals

    private void refusals() {
        says("REFUSALS, of several the first that a call names: UNKNOWN (there is no such PLACE, WAY, SHOT, MARK, "
            + "STORY, RULE, LAND, RIGHT, HALL, MAN, EVENT), OUTSIDE (another number is not as told), STATE (as told), FULL");
        due("UNKNOWN", NewsreelHouse.UNKNOWN, -1);
        due("OUTSIDE", NewsreelHouse.OUTSIDE, -2);
        due("STATE", NewsreelHouse.STATE, -3);
        due("FULL", NewsreelHouse.FULL, -4);
        unknownFirst();
        outsideAheadOfStateAndFull();
        due("way: STATE ahead of FULL", crowded().way(3, 3, 0, 1, 1, 0), STATE);
        due("put: STATE ahead of FULL, away", crowded().put(0, 36), STATE);
        due("put: STATE ahead of FULL, in it", crowded().put(0, 5), STATE);
        says("What is refused changes nothing");
        oneRefusalOfEachKind();
        says("NONE is -9");
        due("NONE", NewsreelHouse.NONE, -9);
        due("an answer", fresh().reel(0, 0), -9);
    }

    private void unknownFirst() {
        for (int how = EMPTY; how <= CROWDED; how++) {
            NewsreelHouse x = Houses.made(how);
            due("way, ahead of OUTSIDE", x.way(8, 0, -1, 0, 0, -1), UNKNOWN);
            due("way, ahead of STATE and FULL", x.way(8, 8, 0, 1, 1, 0), UNKNOWN);
            due("arrival", x.arrival(0, 10000, 8, false), UNKNOWN);
            due("shot", x.shot(8, -1, 0, 16, 256, 3), UNKNOWN);
            due("about", x.about(40, 6), UNKNOWN);
            due("where", x.where(40, -1), UNKNOWN);
            due("fact", x.fact(8, 256, 365, 365), UNKNOWN);
            due("lie, the shot", x.lie(40, 0, 10000), UNKNOWN);
            due("story", x.story(16, 8, -1, 1000), UNKNOWN);
            due("put", x.put(8, 40), UNKNOWN);
            due("cut", x.cut(8, 6), UNKNOWN);
            due("of", x.of(8, 7), UNKNOWN);
            due("feed", x.feed(6, -1L), UNKNOWN);
            due("strike", x.strike(6, 417), UNKNOWN);
            due("bars", x.bars(0, 5, 417), UNKNOWN);
            due("allowed", x.allowed(8, 0, 417), UNKNOWN);
            due("apart, ahead of STATE", x.apart(8, 8, true), UNKNOWN);
            due("reel", x.reel(5, 417), UNKNOWN);
            due("reelAt", x.reelAt(5, 417, -1), UNKNOWN);
            due("judge", x.judge(5, 417, -1L), UNKNOWN);
            due("show, ahead of OUTSIDE and STATE", x.show(5, 417), UNKNOWN);
            due("man", x.man(4, 0, 10000), UNKNOWN);
            due("man, the place", x.man(0, 8, 10000), UNKNOWN);
            due("event", x.event(8, 10000, 0), UNKNOWN);
            due("hall", x.hall(5, 2, 1, 0), UNKNOWN);
        }
        due("lie, the place", mixed().lie(0, 8, 10000), UNKNOWN);
        due("put of an away shot, the story", mixed().put(8, 2), UNKNOWN);
        due("put behind a full story, the shot", crowded().put(0, 40), UNKNOWN);
    }

    private void outsideAheadOfStateAndFull() {
        NewsreelHouse x = crowded();
        due("pass, ahead of FULL", x.pass(501), OUTSIDE);
        due("way, ahead of STATE and FULL", x.way(3, 3, 10000, 1, 1, 0), OUTSIDE);
        due("shot, ahead of FULL", x.shot(0, 0, 901, 0, 0, 0), OUTSIDE);
        due("story, ahead of FULL", x.story(0, 0, 0, 1000), OUTSIDE);
        due("rule, ahead of FULL", x.rule(417), OUTSIDE);
        due("right, ahead of FULL", x.right(0, 0, 1, 0, 1), OUTSIDE);
        due("event, ahead of FULL", x.event(0, 0, 1000), OUTSIDE);
        due("hall, ahead of FULL", x.hall(0, 1, 0, 1), OUTSIDE);
        due("strike, ahead of STATE", mixed().strike(3, 417), OUTSIDE);
        due("length, ahead of STATE", fresh().length(true, 0), OUTSIDE);
        due("length, ahead of STATE, above", fresh().length(false, 3001), OUTSIDE);
        due("show, ahead of STATE", fresh().show(0, 417), OUTSIDE);
    }

    /** Each refusal that a call can answer, once; the promises' own checks look at every argument. */
    private void oneRefusalOfEachKind() {
        refused("pass OUTSIDE", OUTSIDE, x -> x.pass(501), EMPTY, MIXED, CROWDED);
        refused("pass FULL", FULL, x -> x.pass(10), CROWDED);
        refused("way UNKNOWN", UNKNOWN, x -> x.way(8, 0, 0, 1, 1, 0), EMPTY, MIXED, CROWDED);
        refused("way OUTSIDE", OUTSIDE, x -> x.way(1, 0, 0, 0, 1, 0), EMPTY, MIXED, CROWDED);
        refused("way STATE", STATE, x -> x.way(1, 1, 0, 1, 1, 0), EMPTY, MIXED, CROWDED);
        refused("way FULL", FULL, x -> x.way(1, 0, 0, 1, 1, 0), CROWDED);
        refused("shut UNKNOWN", UNKNOWN, x -> x.shut(24), EMPTY, MIXED, CROWDED);
        refused("shut STATE", STATE, x -> x.shut(3), MIXED);
        refused("shot OUTSIDE", OUTSIDE, x -> x.shot(0, 0, 901, 0, 0, 1), EMPTY, MIXED, CROWDED);
        refused("shot FULL", FULL, x -> x.shot(0, 0, 1, 0, 0, 1), CROWDED);
        refused("send STATE, no ways", STATE, x -> x.send(6), MIXED);
        refused("send STATE, sent", STATE, x -> x.send(3), MIXED);
        refused("come STATE", STATE, x -> x.come(2), MIXED);
        refused("lose STATE", STATE, x -> x.lose(5), MIXED);
        refused("fact OUTSIDE", OUTSIDE, x -> x.fact(0, 0, 0, 365), EMPTY, MIXED, CROWDED);
        refused("story FULL", FULL, x -> x.story(0, 0, 0, 0), CROWDED);
        refused("put STATE", STATE, x -> x.put(2, 2), MIXED);
        refused("put FULL", FULL, x -> x.put(0, 30), CROWDED);
        refused("cut OUTSIDE", OUTSIDE, x -> x.cut(0, 6), MIXED, CROWDED);
        refused("age OUTSIDE", OUTSIDE, x -> x.age(401), EMPTY, MIXED, CROWDED);
        refused("rate OUTSIDE", OUTSIDE, x -> x.rate(0, 100), EMPTY, MIXED, CROWDED);
        refused("rule FULL", FULL, x -> x.rule(0), CROWDED);
        refused("feed FULL", FULL, x -> x.feed(0, 33L), CROWDED);
        refused("strike STATE", STATE, x -> x.strike(3, 0), MIXED);
        refused("reserve OUTSIDE", OUTSIDE, x -> x.reserve(16, true), EMPTY, MIXED, CROWDED);
        refused("right FULL", FULL, x -> x.right(0, 31, 0, 416, 9), CROWDED);
        refused("length STATE", STATE, x -> x.length(true, 89), MIXED);
        refused("apart STATE", STATE, x -> x.apart(1, 1, true), MIXED, CROWDED);
        refused("rival OUTSIDE", OUTSIDE, x -> x.rival(16, true), EMPTY, MIXED, CROWDED);
        refused("show STATE", STATE, x -> x.show(0, 0), EMPTY);
        refused("man OUTSIDE", OUTSIDE, x -> x.man(0, 0, 10000), EMPTY, MIXED, CROWDED);
        refused("event FULL", FULL, x -> x.event(0, 0, 999), CROWDED);
        refused("hall FULL", FULL, x -> x.hall(0, 0, 8, 9999), CROWDED);
        refused("part OUTSIDE", OUTSIDE, x -> x.part(0, 101), EMPTY, MIXED, CROWDED);
        refused("prints OUTSIDE", OUTSIDE, x -> x.prints(9), EMPTY, MIXED, CROWDED);
    }

    // ---- 1: ways, hours

    private void hoursAndPlaces() {
        says("HOURS are 0 to 9999");
        NewsreelHouse x = fresh();
        due("the first", x.arrival(0, 0, 0, false), 0);
        due("the last", x.arrival(0, 9999, 0, true), 9999);
        due("below", x.arrival(0, -1, 0, false), OUTSIDE);
        due("above", x.arrival(0, 10000, 0, false), OUTSIDE);
        due("THE HOUR can be the last", at(9999).count(7), 9999);
        says("THE HOUR is 0 at first");
        due("at first", fresh().count(7), 0);
        due("a shot of hour 0", fresh().shot(0, 0, 1, 0, 0, 1), 0);
        due("a shot of hour 1", fresh().shot(0, 1, 1, 0, 0, 1), OUTSIDE);
        says("the DAY of an HOUR is that by 24, cut (0 to 416)");
        x.fact(0, 255, 0, 0);
        x.fact(1, 255, 1, 1);
        x.fact(2, 255, 416 - 365, 416 - 365);
        for (int mark = 0; mark < 3; mark++) {
            x.shot(0, 0, 1, 0, 1 << mark, 1);
        }
        due("hour 0 is of day 0", x.lie(0, 0, 0), NONE);
        due("hour 23 is of day 0", x.lie(0, 0, 23), NONE);
        due("hour 24 is not", x.lie(0, 0, 24), 0);
        due("hour 24 is of day 1", x.lie(1, 0, 24), NONE);
        due("hour 9999 is of day 416", x.lie(2, 0, 9999), NONE);
        due("hour 9984 is of day 416", x.lie(2, 0, 9984), NONE);
        due("hour 9983 is not", x.lie(2, 0, 9983), 2);
        due("day 416", x.reel(0, 416), NONE);
        due("day 417", x.reel(0, 417), OUTSIDE);
        due("day -1", x.reel(0, -1), OUTSIDE);
        says("PLACES 0 to 7");
        due("the first and the last", x.way(0, 7, 0, 1, 1, 0), 0);
        refusedFor("way from", UNKNOWN, (y, v) -> y.way(v, 0, 0, 1, 1, 0), -1, 8);
        refusedFor("shot at", UNKNOWN, (y, v) -> y.shot(v, 0, 1, 0, 0, 0), -1, 8);
        says("0 is THE HOUSE");
        x.shot(0, 0, 1, 0, 0, 0);
        x.shot(7, 0, 1, 0, 0, 0);
        due("a shot that is there", x.send(3), 0);
        due("no way to it", x.send(4), STATE);
        x.way(7, 0, 2, 10, 3, 1);
        due("a way to it", x.send(4), 5);
    }

    private void ways() {
        says("WAYS 0, 1, .. (24 at most): from a PLACE to another one, it leaves at FIRST, and EVERY so many HOURS "
            + "behind that, 9999 at most (one may be there later)");
        NewsreelHouse x = fresh();
        for (int i = 0; i < 24; i++) {
            due("number", x.way(1 + i / 4, 0, 9000, 333 + i, 50, 7), i);
        }
        due("the 25th", x.way(1, 0, 0, 1, 1, 0), FULL);
        x = fresh();
        x.way(1, 2, 9000, 333, 50, 7);
        due("waits for the first", x.arrival(1, 0, 2, false), 9050);
        due("just there", x.arrival(1, 9000, 2, false), 9050);
        due("one hour behind", x.arrival(1, 9001, 2, false), 9383);
        due("the last, and there at 10049", x.arrival(1, 9999, 2, false), 10049);
        due("not the other way", x.arrival(2, 0, 1, false), NONE);
        x.way(3, 4, 9500, 500, 1, 0);
        due("it leaves at 9500", x.arrival(3, 9500, 4, false), 9501);
        due("but not at 10000", x.arrival(3, 9501, 4, false), NONE);
        x.way(5, 6, 9999, 1, 500, 200);
        due("first of 9999", x.arrival(5, 0, 6, true), 10699);
        x.way(2, 7, 0, 1, 1, 0);
        due("there at 10049: no way leaves then", x.arrival(1, 9999, 7, false), NONE);
        says("it TAKES so many, and may be LATE by so many");
        due("at best", x.arrival(5, 9999, 6, false), 9999 + 500);
        due("at worst", x.arrival(5, 9999, 6, true), 9999 + 500 + 200);
        x.way(6, 5, 0, 1, 1, 0);
        due("the least", x.arrival(6, 0, 5, true), 1);
        says("A WAY that is SHUT is used no more (for good)");
        x.shut(2);
        due("no more", x.arrival(5, 0, 6, false), NONE);
        x.pass(500);
        due("later neither", x.arrival(5, 500, 6, false), NONE);
        due("it can not be shut again", x.shut(2), STATE);
        due("one like it is another one", x.way(5, 6, 9999, 1, 500, 0), 5);
        due("which is used", x.arrival(5, 0, 6, false), 10499);
    }

    private void arrivals() {
        says("ARRIVAL from a PLACE, from an HOUR on, at another one: the earliest HOUR by WAYS one behind the other, each of "
            + "which leaves no earlier than one is there (any number of them; at the same PLACE: at once)");
        NewsreelHouse x = fresh();
        due("at the same place, without ways", x.arrival(6, 9999, 6, true), 9999);
        for (int place = 0; place < 7; place++) {
            x.way(place + 1, place, 10 * (7 - place), 500, 10, 1);
        }
        due("seven ways, each leaves when one is there", x.arrival(7, 10, 0, false), 80);
        due("seven ways, each left an hour ahead", x.arrival(7, 10, 0, true), 6 * 500 + 81);
        due("at the same place, with ways", x.arrival(7, 10, 7, false), 10);
        x.way(7, 0, 20, 500, 60, 0);
        due("one way that is as early", x.arrival(7, 10, 0, false), 80);
        x.way(7, 0, 20, 500, 59, 0);
        due("one way that is earlier", x.arrival(7, 10, 0, false), 79);
        x.way(7, 3, 11, 500, 38, 0);
        due("a way to the midst, an hour ahead of the next: no gain", x.arrival(7, 11, 0, false), 79);
        x.way(3, 0, 49, 500, 29, 0);
        due("a way from the midst on: a gain", x.arrival(7, 11, 0, false), 78);
        says("at best no WAY is LATE, at worst each is by all that it may be");
        x = fresh();
        x.way(1, 2, 0, 500, 5, 200);
        x.way(2, 3, 5, 100, 5, 3);
        due("at best", x.arrival(1, 0, 3, false), 10);
        due("at worst: there at 205, on at once", x.arrival(1, 0, 3, true), 205 + 5 + 3);
        x.way(1, 2, 0, 500, 201, 0);
        due("at worst another way is the earlier one, and waits", x.arrival(1, 0, 2, true), 201);
        due("at best it is not", x.arrival(1, 0, 2, false), 5);
    }

    // ---- 2: shots, facts

    private void shots() {
        says("SHOTS 0, 1, .. (40 at most): a PLACE, an HOUR, FEET, a SUBJECT 0 to 15, MARKS (a set of 0 to 7), a KIND: 0 OWN, "
            + "1 KEPT, 2 LENT");
        NewsreelHouse x = at(100);
        due("the least of all", x.shot(0, 0, 1, 0, 0, 0), 0);
        due("the greatest of all", x.shot(7, 100, 900, 15, 255, 2), 1);
        due("subject 16", x.shot(0, 0, 1, 16, 0, 0), OUTSIDE);
        due("mark 8", x.shot(0, 0, 1, 0, 256, 0), OUTSIDE);
        due("kind 3", x.shot(0, 0, 1, 0, 0, 3), OUTSIDE);
        for (int i = 2; i < 40; i++) {
            due("number", x.shot(0, 0, 1, 0, 0, 1), i);
        }
        due("the 41st", x.shot(0, 0, 1, 0, 0, 1), FULL);
        says("KEPT and LENT ones are IN from the HOUR at which they are told");
        due("kept", x.where(2, 100), 3);
        due("lent", x.where(1, 100), 3);
        due("not an hour ahead, though taken at 0", x.where(2, 99), 0);
        due("can be put at once", x.story(0, 0, 0, 0), 0);
        due("can be put", x.put(0, 1), 1);
        says("OWN ones are AWAY");
        due("own", x.where(0, 100), 1);
        due("own, at THE HOUSE: not in", x.put(0, 0), STATE);
        says("SENT at THE HOUR from their PLACE they are expected at THE HOUSE from ARRIVAL at best to ARRIVAL at worst");
        x = at(100);
        x.way(3, 0, 99, 10, 4, 6);
        x.shot(3, 0, 1, 0, 0, 0);
        due("from THE HOUR on, not from that of the shot", x.send(0), 113);
        due("at best", x.expected(0, false), x.arrival(3, 100, 0, false));
        due("at worst", x.expected(0, true), x.arrival(3, 100, 0, true));
        says("they COME, are IN then");
        x.pass(13);
        due("sent till then", x.where(0, 113), 2);
        due("comes", x.come(0), 0);
        due("is in", x.where(0, 113), 3);
        due("not an hour ahead", x.where(0, 112), 2);
        says("or are LOST (any time)");
        due("in", x.lose(0), 3);
        due("away", mixed().lose(2), 1);
        due("sent", mixed().lose(3), 2);
        due("kept", mixed().lose(0), 3);
        NewsreelHouse y = at(9999);
        y.shot(0, 0, 1, 0, 0, 1);
        due("at the last hour", y.lose(0), 3);
        lastInAnHour();
    }

    private void lastInAnHour() {
        says("WHERE a SHOT was as of an HOUR: 0 not told yet, 1 AWAY, 2 SENT, 3 IN, 4 LOST (what comes last in an HOUR counts)");
        NewsreelHouse x = at(7);
        x.shot(0, 0, 1, 0, 0, 0);
        x.pass(1);
        due("not told yet, at 0", x.where(0, 0), 0);
        due("not told yet, at 6", x.where(0, 6), 0);
        due("away", x.where(0, 7), 1);
        x.send(0);
        due("sent", x.where(0, 8), 2);
        x.come(0);
        due("sent and come in an hour", x.where(0, 8), 3);
        x.lose(0);
        due("and lost", x.where(0, 8), 4);
        due("an hour ahead still away", x.where(0, 7), 1);
        x.shot(0, 0, 1, 0, 0, 1);
        x.lose(1);
        due("told and lost in an hour", x.where(1, 8), 4);
        due("not told an hour ahead", x.where(1, 7), 0);
        x.pass(1);
        due("lost stays lost", x.where(1, 9), 4);
    }

    private void facts() {
        says("A FACT of a MARK: it can be only in PLACES of a set, and on DAYS of the YEAR (DAY modulo 365) from .. to "
            + "(round, if to is less)");
        NewsreelHouse x = fresh();
        x.shot(0, 0, 1, 0, 128, 1);
        x.fact(7, 0b10000001, 100, 200);
        row("in places of the set", (y, place) -> y.lie(0, place, 2400), x, NONE, 7, 7, 7, 7, 7, 7, NONE);
        due("the day ahead", x.lie(0, 0, 2399), 7);
        due("the last day", x.lie(0, 0, 201 * 24 - 1), NONE);
        due("the day behind", x.lie(0, 0, 201 * 24), 7);
        x.fact(7, 255, 50, 51);
        due("day 415 is day 50 of a year", x.lie(0, 0, 415 * 24), NONE);
        due("day 416 is day 51 of a year", x.lie(0, 0, 416 * 24), NONE);
        due("day 414 is day 49 of a year", x.lie(0, 0, 414 * 24), 7);
        x.fact(7, 255, 364, 0);
        due("round: day 364", x.lie(0, 0, 364 * 24), NONE);
        due("round: day 365 is day 0", x.lie(0, 0, 365 * 24), NONE);
        due("round: day 366 is day 1", x.lie(0, 0, 366 * 24), 7);
        due("round: day 0", x.lie(0, 0, 0), NONE);
        due("round: day 1", x.lie(0, 0, 24), 7);
        due("round: day 363", x.lie(0, 0, 363 * 24), 7);
        x.fact(7, 255, 360, 5);
        due("round: within, ahead of the turn", x.lie(0, 0, 362 * 24), NONE);
        due("round: within, behind the turn", x.lie(0, 0, 3 * 24), NONE);
        due("round: the day ahead", x.lie(0, 0, 359 * 24), 7);
        due("round: the day behind", x.lie(0, 0, 6 * 24), 7);
        x.fact(7, 255, 9, 9);
        due("one day: it", x.lie(0, 0, 9 * 24), NONE);
        due("one day: the next", x.lie(0, 0, 10 * 24), 7);
        x.fact(7, 255, 9, 8);
        due("round the whole year: day 8", x.lie(0, 0, 8 * 24), NONE);
        due("round the whole year: day 9", x.lie(0, 0, 9 * 24), NONE);
        x.fact(7, 0, 0, 364);
        due("in no place", x.lie(0, 0, 0), 7);
        says("none at first: it can be anywhere");
        x = fresh();
        x.shot(0, 0, 1, 0, 255, 1);
        row("all marks in every place, on the first day", (y, place) -> y.lie(0, place, 0), x, NONE, NONE, NONE, NONE, NONE, NONE, NONE, NONE);
        row("on the last one of a year", (y, place) -> y.lie(0, place, 364 * 24 + 23), x, NONE, NONE, NONE, NONE, NONE, NONE, NONE, NONE);
        says("A SHOT CAN BE of a PLACE and HOUR, if all its MARKS can");
        x.fact(7, 255, 1, 364);
        due("the last of eight can not", x.lie(0, 0, 0), 7);
        x.fact(0, 254, 0, 364);
        due("nor can the first", x.lie(0, 0, 0), 0);
        x.shot(0, 0, 1, 0, 126, 1);
        due("a shot with the six others", x.lie(1, 0, 0), NONE);
        x.shot(0, 0, 1, 0, 0, 1);
        x.fact(0, 0, 0, 0);
        due("a shot without marks", x.lie(2, 0, 0), NONE);
    }

    // ---- 3: stories

    private void stories() {
        says("STORIES 0, 1, .. (8 at most): a SUBJECT, a PLACE, an HOUR, WORTH (0 to 999), SHOTS in order (6 at most, of those "
            + "that are IN; none twice)");
        NewsreelHouse x = at(100);
        due("worth 0", x.story(0, 0, 0, 0), 0);
        due("worth 999", x.story(0, 0, 0, 999), 1);
        due("worth 1000", x.story(0, 0, 0, 1000), OUTSIDE);
        for (int i = 2; i < 8; i++) {
            due("number", x.story(0, 0, 0, 0), i);
        }
        due("the ninth", x.story(0, 0, 0, 0), FULL);
        for (int i = 0; i < 8; i++) {
            x.shot(0, 48 + i, 900 - i, 0, 0, i == 7 ? 0 : 1);
        }
        due("one that is not in", x.put(0, 7), STATE);
        row("six", (y, i) -> y.put(0, 5 - i), x, 1, 2, 3, 4, 5, 6);
        due("twice", x.put(0, 3), STATE);
        due("a seventh", x.put(0, 6), FULL);
        says("FEET: of all its SHOTS");
        due("of six", x.of(0, 1), 5400 - 15);
        due("of none", x.of(1, 1), 0);
        x.put(2, 6);
        due("of one", x.of(2, 1), 894);
        disorder();
        oldOnes();
        falseOnes();
    }

    private void disorder() {
        says("DISORDER: the first SHOT (its number in the STORY) whose HOUR is below that of the one ahead, or whose DAY is "
            + "another one");
        int[][] hours = {{}, {50}, {24, 47}, {24, 24}, {25, 24}, {23, 24}, {24, 23}, {24, 48}, {24, 30, 30, 29, 50, 49}, {24, 25, 26, 27, 28, 48}};
        int[] wants = {NONE, NONE, NONE, NONE, 1, 1, 1, 1, 3, 5};
        for (int k = 0; k < hours.length; k++) {
            NewsreelHouse x = at(100);
            x.story(0, 0, 9999, 0);
            for (int i = 0; i < hours[k].length; i++) {
                x.shot(0, hours[k][i], 1, 0, 0, 1);
                x.put(0, i);
            }
            due("row " + k, x.of(0, 2), wants[k]);
        }
    }

    private void oldOnes() {
        says("OLD ones: SHOTS whose DAY is more than AGE (0 to 400; 30 at first) ahead of that of the STORY");
        NewsreelHouse x = at(9999);
        x.story(0, 0, 9999, 0);
        int[] days = {416, 415, 386, 385, 16, 15};
        for (int i = 0; i < 6; i++) {
            x.shot(0, 24 * days[i] + 15, 1, 0, 0, 1);
            x.put(0, i);
        }
        due("30 at first: 31 and more are old", x.of(0, 3), 3);
        due("30 at first", x.age(31), 30);
        due("31", x.of(0, 3), 2);
        x.age(0);
        due("0: all but those of the day", x.of(0, 3), 5);
        x.age(1);
        due("1", x.of(0, 3), 4);
        x.age(400);
        due("400: day 15 is 401 ahead, day 16 is not", x.of(0, 3), 1);
        due("401", x.age(401), OUTSIDE);
        due("-1", x.age(-1), OUTSIDE);
        x.age(0);
        x.story(0, 0, 0, 0);
        x.put(1, 0);
        due("a shot behind the story is not old", x.of(1, 3), 0);
        x.story(0, 0, 24 * 386, 0);
        x.put(2, 2);
        due("of the same day, at a later hour", x.of(2, 3), 0);
        says("they are SAID, or not");
        due("not at first", x.say(0, true), 0);
        due("said", x.say(0, false), 1);
        due("not any more", x.say(0, false), 0);
        due("how many there are does not change", x.of(0, 3), 5);
    }

    private void falseOnes() {
        says("FALSE ones: SHOTS that CAN not BE of the STORY's PLACE and HOUR");
        NewsreelHouse x = at(100);
        x.fact(0, 2, 3, 3);
        for (int i = 0; i < 6; i++) {
            x.shot(1, 75, 1, 0, i == 5 ? 2 : 1, 1);
        }
        x.story(0, 1, 72, 0);
        x.story(0, 1, 71, 0);
        x.story(0, 2, 72, 0);
        for (int i = 0; i < 6; i++) {
            x.put(0, i);
            x.put(1, i);
            x.put(2, i);
        }
        due("place and day are right", x.of(0, 4), 0);
        due("the day is not, though that of the shots is", x.of(1, 4), 5);
        due("the place is not, though that of the shots is", x.of(2, 4), 5);
        says("A STORY is READY, if it has a SHOT, and all are IN now");
        due("all six are in", x.of(0, 6), 1);
        x.lose(5);
        due("the last one is lost", x.of(0, 6), 0);
        x.cut(0, 5);
        due("it is taken out", x.of(0, 6), 1);
        x.lose(0);
        due("the first one is lost", x.of(0, 6), 0);
        x.story(0, 1, 71, 0);
        due("without a shot", x.of(3, 6), 0);
        x.put(3, 1);
        due("with one", x.of(3, 6), 1);
        x.cut(3, 0);
        due("without it again", x.of(3, 6), 0);
        says("It MUST be shown, or not");
        due("not at first", x.must(3, true), 0);
        due("must", x.must(3, false), 1);
        due("not any more", x.must(3, false), 0);
    }

    // ---- 4: rules, rights

    private void rulesInForce() {
        says("LANDS 0 to 4");
        refusedFor("reel", UNKNOWN, (x, v) -> x.reel(v, 0), -1, 5);
        due("the last", fresh().reel(4, 0), NONE);
        says("RULES 0, 1, .. (6 at most) are texts (80 bytes at most), in force from a DAY on, till the DAY ahead of that from "
            + "which they are STRUCK");
        NewsreelHouse x = fresh();
        for (int i = 0; i < 6; i++) {
            due("number", x.rule(i < 3 ? 10 : 416), i);
        }
        due("the seventh", x.rule(0), FULL);
        due("80 bytes", Houses.feedText(x, 0, "s=0" + Houses.times(77, " ")), 80);
        due("81", x.feed(0, 32L), FULL);
        x.story(0, 0, 0, 0);
        due("the day ahead", x.bars(0, 0, 9), NONE);
        due("from that day on", x.bars(0, 0, 10), 0);
        due("to the last day", x.bars(0, 0, 416), 0);
        x.strike(0, 12);
        due("the day ahead of that", x.bars(0, 0, 11), 0);
        due("that day", x.bars(0, 0, 12), NONE);
        due("the day ahead of its first", x.bars(0, 0, 9), NONE);
        x.story(1, 0, 0, 0);
        Houses.feedText(x, 1, "s=1");
        due("the next rule, for another story", x.bars(1, 0, 10), 1);
        x.strike(1, 10);
        due("struck from its first day on: never", x.bars(1, 0, 10), NONE);
        Houses.feedText(x, 2, "s=1");
        due("one more", x.bars(1, 0, 10), 2);
        x.strike(2, 0);
        due("struck ahead of its first day: never", x.bars(1, 0, 10), NONE);
        due("neither then", x.bars(1, 0, 0), NONE);
        Houses.feedText(x, 3, "s=0");
        due("from the last day on", x.bars(0, 0, 416), 3);
        due("not the day ahead", x.bars(0, 0, 415), NONE);
        x.strike(3, 416);
        due("struck from the last day on", x.bars(0, 0, 416), NONE);
    }

    /** Whether a text holds for a story of subject 1 at place 2 in land 3, without shots. */
    private static int held(String text) {
        NewsreelHouse x = fresh();
        x.story(1, 2, 0, 0);
        x.rule(0);
        Houses.feedText(x, 0, text);
        return x.fault(0) == NONE ? x.bars(0, 3, 0) + 1 : x.fault(0) + 1000;
    }

    private void holds(String... texts) {
        for (String text : texts) {
            due(text, held(text), 1);
        }
    }

    private void doesNot(String... texts) {
        for (String text : texts) {
            due(text, held(text), NONE + 1);
        }
    }

    private void fault(String text, int want) {
        due("fault of '" + text + "'", faultOf(text), want);
    }

    private void grammar() {
        says("ANY: ALL, or ALL | ANY");
        holds("s=1", "s=1|s=2", "s=2|s=1", "s=1|s=2|s=3", "s=2|s=1|s=3", "s=2|s=2|s=2|s=1", "s=1|s=2&s=2", "s=2&s=2|s=1");
        doesNot("s=2", "s=2|s=3", "s=2|s=3|s=4");
        fault("s=1|", 4);
        fault("|s=1", 0);
        fault("s=1||s=1", 4);
        says("ALL: ONE, or ONE & ALL");
        holds("s=1&p=2", "s=1&p=2&l=3", "s=2&p=2|l=3");
        doesNot("s=1&p=3", "s=2&p=2", "s=1&p=2&l=4", "s=2&p=2|s=1&l=4", "(s=1|p=2)&l=4");
        fault("s=1&", 4);
        fault("&s=1", 0);
        fault("s=1&&s=1", 4);
        fault("s=1&|s=1", 4);
        says("ONE: ! ONE, or ( ANY ), or a letter, < or = or >, and a number of one to four digits");
        holds("!s=2", "!!s=1", "!(s=2)", "(s=1)", "((s=1|s=2))", "!s=2&p=2", "!(s=2|p=3)", "s<2", "s>0", "s=0001", "s<9999", "!s=2|s=2", "s=01");
        doesNot("!s=1", "!!!s=1", "!(s=1)", "(s=2)", "s<1", "s>1", "s=0010", "!s=1|s=2", "!(s=1&p=2)", "!s=1&s=1");
        fault("s=12345", 6);
        fault("s=00001", 6);
        fault("s=", 2);
        fault("s", 1);
        fault("!", 1);
        fault("()", 1);
        fault("(s=1", 4);
        fault("s=1)", 3);
        fault("(s=1))", 5);
        fault("s<=1", 2);
        fault("s!1", 1);
        fault("s=-1", 2);
        fault("s=p", 2);
        fault("1=s", 0);
        fault("s=1!", 3);
        fault("s=1(", 3);
        fault("s=1 s=1", 4);
        fault("(s=1)(s=1)", 5);
        says("Blanks may stand ahead of any sign and at the end");
        holds("   s   =   1   ", " ! ( s = 2 | p = 3 ) ", "s=1 & p=2 | l=4", " !s=2", "( s=1 )");
        fault("s=1 2", 4);
        fault("s=1\t", 3);
        fault("s=1\n", 3);
        fault("\u00a0s=1", 0);
    }

    private void letters() {
        says("Letters: s SUBJECT, p PLACE, l LAND, f FEET, o how many OLD ones, u the same if they are not SAID, else 0, "
            + "x how many FALSE ones, k how many LENT ones");
        String letters = "splfouxk";
        for (int c = 33; c < 256; c++) {
            String text = (char) c + "=0";
            boolean begins = letters.indexOf(c) >= 0;
            boolean opens = c == '!' || c == '(';
            due("a rule that begins with byte " + c, faultOf(text), begins ? NONE : opens ? 1 : 0);
        }
        int[] values = {15, 7, 4, 900 * 6, 5, 5, 3, 2};
        for (int i = 0; i < 8; i++) {
            String letter = letters.substring(i, i + 1);
            due(letter, barsStoryOfAll(letter + "=" + values[i], false), 0);
            due(letter + " above", barsStoryOfAll(letter + ">" + values[i], false), NONE);
            due(letter + " below", barsStoryOfAll(letter + "<" + values[i], false), NONE);
        }
        due("o when they are said", barsStoryOfAll("o=5", true), 0);
        due("u when they are said", barsStoryOfAll("u=0", true), 0);
    }

    /** A story of subject 15 at place 7 in land 4: six shots of 900 feet, 5 old, 3 false, 2 lent. */
    private static int barsStoryOfAll(String text, boolean said) {
        NewsreelHouse x = at(2000);
        x.fact(0, 1, 0, 364);
        x.story(15, 7, 1999, 0);
        for (int i = 0; i < 6; i++) {
            x.shot(7, i == 0 ? 1999 : 10, 900, 0, i < 3 ? 1 : 0, i >= 4 ? 2 : 1);
            x.put(0, i);
        }
        x.say(0, said);
        x.rule(0);
        Houses.feedText(x, 0, text);
        return x.bars(0, 4, 0);
    }

    private void faults() {
        says("FAULT: the first byte (or their length) at which no RULE could go on (0 without bytes)");
        fault("", 0);
        fault(" ", 1);
        fault(Houses.times(80, " "), 80);
        fault("z", 0);
        fault("  z", 2);
        fault("s=1&z=1", 4);
        fault("s=1zz", 3);
        fault("(((s=1)", 7);
        fault(Houses.times(38, "(") + "s=1" + Houses.times(38, ")"), NONE);
        fault(Houses.times(38, "(") + "s=1" + Houses.times(39, ")"), 79);
        fault(Houses.times(39, "(") + "s=1" + Houses.times(38, ")"), 80);
        fault(Houses.times(80, "("), 80);
        fault(Houses.times(80, "!"), 80);
        fault(Houses.times(77, "!") + "s=1", NONE);
        fault(Houses.times(19, "s=1&") + "s=1&", 80);
        fault(Houses.times(19, "s=1&") + "s=1 ", NONE);
        says("one with a FAULT is never in force");
        NewsreelHouse x = fresh();
        x.story(1, 0, 0, 0);
        x.rule(0);
        due("without bytes", x.bars(0, 0, 0), NONE);
        Houses.feedText(x, 0, "s=1");
        due("without a fault", x.bars(0, 0, 0), 0);
        Houses.feedText(x, 0, "|");
        due("with a fault at its end", x.bars(0, 0, 0), NONE);
        Houses.feedText(x, 0, "s=2");
        due("without it again", x.bars(0, 0, 0), 0);
        Houses.feedText(x, 0, "x");
        due("with a fault for good", x.bars(0, 0, 0), NONE);
        Houses.feedText(x, 0, "=0");
        due("whatever comes behind it", x.bars(0, 0, 0), NONE);
        for (String begun : new String[] {"!", "(((", "((!", "s=2|", "(s=2|p=9)&(!"}) {
            x = fresh();
            x.story(1, 0, 0, 0);
            x.rule(0);
            x.rule(0);
            Houses.feedText(x, 0, begun);
            Houses.feedText(x, 1, "s=1&(p=0&(l=0))");
            due("the next rule holds, whatever stands ahead", x.bars(0, 0, 0), 1);
            due("or it does not", x.bars(0, 1, 0), NONE);
        }
        says("A RULE BARS a STORY in a LAND on a DAY, if it is in force and holds");
        x = fresh();
        x.story(1, 0, 0, 0);
        x.story(2, 0, 0, 0);
        x.rule(5);
        Houses.feedText(x, 0, "s=1&l=2");
        due("in force, and holds", x.bars(0, 2, 5), 0);
        due("not in force", x.bars(0, 2, 4), NONE);
        due("in another land", x.bars(0, 1, 5), NONE);
        due("another story", x.bars(1, 2, 5), NONE);
    }

    private void rights() {
        says("SUBJECTS are FREE, or RESERVED");
        row("free at first", (x, subject) -> x.reserve(subject, true), fresh(), 0, 0, 0, 0, 0, 0, 0, 0, 0, 0, 0, 0, 0, 0, 0, 0, OUTSIDE);
        says("RIGHTS 0, 1, .. (8 at most) to a SUBJECT: LANDS (a set), DAYS from .. to, so many SHOWINGS (1 to 99)");
        NewsreelHouse x = fresh();
        due("showings 0", x.right(0, 31, 0, 0, 0), OUTSIDE);
        due("showings 100", x.right(0, 31, 0, 0, 100), OUTSIDE);
        due("showings 1", x.right(0, 31, 0, 0, 1), 0);
        due("showings 99", x.right(0, 31, 0, 0, 99), 1);
        for (int i = 2; i < 8; i++) {
            due("number", x.right(0, 31, 0, 0, 1), i);
        }
        due("the ninth", x.right(0, 31, 0, 0, 1), FULL);
        says("A STORY of a RESERVED SUBJECT may be shown in a LAND on a DAY, if there is a RIGHT to it there then with SHOWINGS left");
        x = withStories(new int[] {5, 6}, new int[] {100, 100});
        x.reserve(0, true);
        x.right(1, 31, 0, 416, 99);
        due("a right to another subject", x.allowed(0, 0, 10), 0);
        x.right(0, 0, 0, 416, 99);
        due("a right to no land", x.allowed(0, 0, 10), 0);
        x.right(0, 0b10001, 10, 11, 1);
        row("in its lands", (y, land) -> y.allowed(0, land, 10), x, 1, 0, 0, 0, 1);
        due("the day ahead", x.allowed(0, 0, 9), 0);
        due("its last day", x.allowed(0, 0, 11), 1);
        due("the day behind", x.allowed(0, 0, 12), 0);
        due("the last showing", x.show(0, 10), 1);
        due("no showing left", x.allowed(0, 0, 10), 0);
        due("in the other land neither", x.allowed(0, 4, 11), 0);
        says("A STORY is ALLOWED in a LAND on a DAY, if no RULE BARS it, and its SUBJECT is FREE or there is such a RIGHT");
        x = fresh();
        x.story(1, 0, 0, 0);
        due("free, no rule, without a shot", x.allowed(0, 0, 0), 1);
        x.reserve(1, true);
        due("reserved, no right", x.allowed(0, 0, 0), 0);
        x.right(1, 31, 0, 416, 1);
        due("reserved, a right", x.allowed(0, 0, 0), 1);
        x.rule(0);
        Houses.feedText(x, 0, "s=1&l=0");
        due("a right, but barred", x.allowed(0, 0, 0), 0);
        due("barred in that land alone", x.allowed(0, 1, 0), 1);
        x.reserve(1, false);
        due("free, but barred", x.allowed(0, 0, 0), 0);
    }

    // ---- 5: reels

    private void reels() {
        says("A REEL for a LAND and DAY is a row of STORIES, none twice, all READY and ALLOWED, no two APART ones side by side, "
            + "FEET of all LEAST to MOST (1 to 3000; 100 and 900 at first)");
        NewsreelHouse x = withStories(new int[] {1, 1, 1}, new int[] {99, 1, 801});
        due("99 feet", x.judge(0, 0, 0x1L), 5);
        due("100 feet", x.judge(0, 0, 0x21L), 0);
        due("900 feet", x.judge(0, 0, 0x31L), 0);
        due("901 feet", x.judge(0, 0, 0x321L), 5);
        due("no story, no feet", x.judge(0, 0, 0L), 5);
        reelIs("901 feet are no reel", x, 2, 0, 1);
        due("100 at first", x.length(false, 1), 100);
        due("900 at first", x.length(true, 3000), 900);
        reelIs("all three now", x, 3, 0, 1, 2);
        due("one foot", x.judge(0, 0, 0x2L), 0);
        due("no story with LEAST 1", x.judge(0, 0, 0L), 5);
        due("twice", x.judge(0, 0, 0x121L), 1);
        x.apart(0, 1, true);
        due("apart, side by side", x.judge(0, 0, 0x12L), 4);
        due("apart, the other way round", x.judge(0, 0, 0x21L), 4);
        due("apart, not side by side", x.judge(0, 0, 0x132L), 0);
        reelIs("one between them", x, 3, 0, 2, 1);
        x.reserve(2, true);
        due("not allowed", x.judge(0, 0, 0x3L), 3);
        reelIs("none between them", x, 1, 0);
        x.lose(0);
        due("not ready", x.judge(0, 0, 0x1L), 2);
        reelIs("what is left", x, 1, 1);
        x.lose(1);
        reelIs("nothing is left", x, NONE);
        says("each that MUST and is READY and ALLOWED is in it");
        x = withStories(new int[] {1, 9, 9}, new int[] {500, 450, 450});
        x.must(0, true);
        reelIs("it must", x, 1, 0);
        due("a row without it", x.judge(0, 0, 0x32L), 6);
        x.must(1, true);
        reelIs("two must, too long together", x, NONE);
        x.reserve(0, true);
        reelIs("one is not allowed, and need not", x, 18, 1, 2);
        x.reserve(0, false);
        x.lose(0);
        reelIs("one is not ready, and need not", x, 18, 1, 2);
    }

    private void bestReel() {
        says("Its WORTH: of all");
        int[] nines = {999, 999, 999, 999, 999, 999, 999, 999};
        int[] hundreds = {100, 100, 100, 100, 100, 100, 100, 100};
        NewsreelHouse x = withStories(nines, hundreds);
        due("eight", x.reel(0, 0), 8 * 999);
        due("worth 0", withStories(new int[] {0}, new int[] {100}).reel(0, 0), 0);
        says("half, cut, of one whose SUBJECT THE RIVAL HAS");
        for (int subject = 0; subject < 8; subject++) {
            x.rival(subject, true);
            due("halves", x.reel(0, 0), 8 * 999 - 500 * (subject + 1));
        }
        x = withStories(new int[] {1}, new int[] {100});
        x.rival(0, true);
        due("half of 1", x.reel(0, 0), 0);
        says("THE BEST REEL: greatest WORTH");
        x = withStories(new int[] {10, 4, 5}, new int[] {900, 300, 300});
        reelIs("one for two", x, 10, 0);
        x.rival(0, true);
        reelIs("two for one", x, 9, 1, 2);
        x = withStories(new int[] {1, 9, 1}, new int[] {400, 900, 400});
        reelIs("not the first by stories, if it has less", x, 9, 1);
        x.rival(1, true);
        reelIs("nor if it has more by two", x, 4, 1);
        x = withStories(new int[] {10, 4, 5}, new int[] {900, 300, 300});
        says("of like ones the first by STORIES, one by one (a row that ends is ahead of one that goes on)");
        x.story(1, 0, 0, 1);
        x.shot(0, 0, 300, 0, 0, 1);
        x.put(3, 3);
        reelIs("10 by one or by three: the first one's number counts", x, 10, 0);
        x = withStories(new int[] {0, 5, 0, 5}, new int[] {100, 300, 100, 300});
        reelIs("stories without worth that come first", x, 10, 0, 1, 2, 3);
        x = withStories(new int[] {5, 5, 0, 0}, new int[] {100, 100, 100, 100});
        reelIs("a row that ends", x, 10, 0, 1);
        x.apart(0, 1, true);
        reelIs("the first between them, and then an end", x, 10, 0, 2, 1);
        x = withStories(nines, hundreds);
        reelIs("eight in order", x, 7992, 0, 1, 2, 3, 4, 5, 6, 7);
        x.apart(6, 7, true);
        reelIs("the last two apart", x, 7992, 0, 1, 2, 3, 4, 6, 5, 7);
        x.apart(0, 1, true);
        reelIs("the first two apart", x, 7992, 0, 2, 1, 3, 4, 6, 5, 7);
        NewsreelHouse last = withStories(nines, hundreds);
        for (int shot = 0; shot < 7; shot++) {
            last.lose(shot);
        }
        reelIs("the last one alone", last, 999, 7);
        x.length(true, 800);
        reelIs("just as long", x, 7992, 0, 2, 1, 3, 4, 6, 5, 7);
        x.length(true, 799);
        reelIs("too long by a foot: the first seven", x, 6993, 0, 2, 1, 3, 4, 5, 6);
    }

    private void showings() {
        says("TO SHOW it: of each of its STORIES with a RESERVED SUBJECT the first RIGHT that there is then, STORY by STORY, has one "
            + "SHOWING less (none, if there is none left)");
        NewsreelHouse x = fresh();
        for (int i = 0; i < 3; i++) {
            x.shot(0, 0, 100, 0, 0, 1);
            x.story(4, 0, 0, 5);
            x.put(i, i);
        }
        due("free: none", x.show(0, 3), 0);
        x.right(5, 31, 0, 416, 9);
        x.right(4, 30, 0, 416, 9);
        x.right(4, 31, 4, 416, 9);
        x.right(4, 31, 0, 2, 9);
        x.right(4, 1, 3, 3, 1);
        x.right(4, 31, 0, 416, 3);
        due("free, with rights: none", x.show(0, 3), 0);
        x.reserve(4, true);
        due("three", x.show(0, 3), 3);
        row("of the first that there is, and then of the next", (y, right) -> y.left(right), x, 9, 9, 9, 9, 0, 1);
        due("three live on one", x.show(0, 3), 1);
        row("none is left", (y, right) -> y.left(right), x, 9, 9, 9, 9, 0, 0);
        due("not any more", x.show(0, 3), STATE);
        row("and nothing is taken", (y, right) -> y.left(right), x, 9, 9, 9, 9, 0, 0);
        due("on another day", x.show(0, 4), 3);
        row("of its right", (y, right) -> y.left(right), x, 9, 9, 6, 9, 0, 0);
        due("in another land", x.show(1, 3), 3);
        row("of its right", (y, right) -> y.left(right), x, 9, 6, 6, 9, 0, 0);
    }

    // ---- 6: men, events

    private void men() {
        says("MEN 0 to 3, each at a PLACE from an HOUR on, or away (as at first)");
        NewsreelHouse x = fresh();
        x.event(0, 0, 9);
        x.event(0, 9999, 9);
        due("away at first", x.cover(), 0);
        due("man 4", x.man(4, 0, 0), UNKNOWN);
        due("man -1", x.man(-1, 0, 0), UNKNOWN);
        for (int man = 0; man < 4; man++) {
            x = fresh();
            x.event(0, 0, 9);
            x.event(0, 9999, 8);
            due("man " + man, x.man(man, 0, 0), 1);
            due("from hour 0 on", x.cover(), 17);
            x.man(man, 0, 1);
            due("from hour 1 on", x.cover(), 8);
            x.man(man, 7, 0);
            due("at another place", x.cover(), 0);
        }
        says("EVENTS 0, 1, .. (8 at most): a PLACE, an HOUR, WORTH (1 to 999)");
        due("worth 0", x.event(0, 0, 0), OUTSIDE);
        due("worth 1000", x.event(0, 0, 1000), OUTSIDE);
        for (int i = 2; i < 8; i++) {
            due("number", x.event(7, 9999, i == 2 ? 1 : 999), i);
        }
        due("the ninth", x.event(0, 0, 1), FULL);
        due("worth of six", x.cover(), 5 * 999 + 1);
        says("A MAN may go to EVENTS one behind the other, if ARRIVAL at worst from where he is (from the HOUR on; from an EVENT "
            + "from its HOUR on) is its HOUR at most");
        x = fresh();
        x.way(0, 1, 5, 500, 10, 5);
        x.way(1, 0, 20, 500, 10, 5);
        x.man(0, 0, 5);
        x.event(1, 19, 1);
        due("at worst an hour too late", x.cover(), 0);
        x.event(1, 20, 2);
        due("at worst just there", x.cover(), 2);
        x.event(0, 34, 4);
        due("there is time to wait at home, or to go", x.cover(), 4);
        x.event(0, 35, 8);
        due("there and back at worst", x.cover(), 12);
        due("home at 34 instead", x.covered(2), 2);
        due("not to 1 then", x.covered(1), 0);
        x.event(1, 21, 16);
        due("an event behind the last way back: it alone, with that of 20", x.cover(), 18);
        x.man(0, 0, 6);
        due("an hour too late for the way", x.cover(), 12);
        x = fresh();
        x.man(0, 3, 5);
        for (int hour : new int[] {10, 30, 20, 5, 25, 40, 4, 30}) {
            x.event(3, hour, 1);
        }
        due("in whatever order they are told, and two at once", x.cover(), 7);
        row("all but one that is over", (y, event) -> y.covered(event), x, 2, 2, 2, 2, 2, 2, 0, 2);
        says("COVER: EVENTS, each by one MAN at most, with the greatest WORTH together");
        x = fresh();
        x.event(1, 10, 7);
        for (int man = 0; man < 4; man++) {
            x.man(man, 1, 0);
            due("one event, so many men and one", x.cover(), 7);
        }
        for (int i = 0; i < 7; i++) {
            x.way(1, i == 0 ? 0 : i + 1, 10, 500, 1, 0);
            x.event(i == 0 ? 0 : i + 1, 11, 10 + i);
        }
        due("four men, the best four of seven, and what lies ahead", x.cover(), 7 + 16 + 15 + 14 + 13);
        row("which", (y, event) -> y.covered(event), x, 2, 0, 0, 0, 2, 2, 2, 2);
    }

    // ---- 7: halls

    private void halls() {
        says("HALLS 0, 1, .. (8 at most): a LAND, WEEKS from .. to (0 to 8), a TAKE (1 to 9999)");
        NewsreelHouse x = fresh();
        due("week -1", x.hall(0, -1, 0, 1), OUTSIDE);
        due("week 9", x.hall(0, 8, 9, 1), OUTSIDE);
        due("take 0", x.hall(0, 0, 0, 0), OUTSIDE);
        due("take 10000", x.hall(0, 0, 0, 10000), OUTSIDE);
        due("the least of all", x.hall(0, 0, 0, 1), 0);
        due("the greatest of all", x.hall(4, 8, 8, 9999), 1);
        due("both", x.run(), 10000);
        for (int i = 2; i < 8; i++) {
            due("number", x.hall(2, 0, 8, 1), i);
        }
        due("the ninth", x.hall(0, 0, 0, 1), FULL);
        says("A WEEK has a PART (0 to 100 in a hundred; 100 at first)");
        row("at first", (y, week) -> y.part(week, 7), x, 100, 100, 100, 100, 100, 100, 100, 100, 100, OUTSIDE);
        due("101", x.part(0, 101), OUTSIDE);
        due("-1", x.part(0, -1), OUTSIDE);
        due("100", x.part(8, 100), 7);
        due("0", x.part(8, 0), 100);
        due("what it is then", x.part(8, 0), 0);
        says("In each WEEK there are so many PRINTS (0 to 8; 1 at first)");
        due("1 at first", x.prints(8), 1);
        due("8", x.prints(0), 8);
        due("0", x.prints(1), 0);
        due("9", x.prints(9), OUTSIDE);
        due("-1", x.prints(-1), OUTSIDE);
        says("THE RUN: of each HALL one of its WEEKS, or none, in no WEEK more HALLS than PRINTS");
        x = fresh();
        for (int i = 0; i < 8; i++) {
            x.hall(0, 3, 4, 1 << i);
        }
        int[] earned = {0, 192, 240, 252, 255, 255, 255, 255, 255};
        for (int n = 0; n <= 8; n++) {
            x.prints(n);
            due(n + " prints in two weeks", x.run(), earned[n]);
        }
        x = fresh();
        x.hall(0, 5, 5, 10);
        due("its only week", x.week(0), 5);
        x.part(5, 0);
        due("not in another one, however much that has", x.run(), 0);
        says("each earns TAKE times PART of its WEEK by 100, cut");
        x = fresh();
        x.prints(8);
        x.hall(0, 0, 0, 199);
        x.part(0, 1);
        due("1.99", x.run(), 1);
        x.hall(0, 0, 0, 99);
        due("0.99 of the other: each is cut", x.run(), 1);
        x.hall(0, 0, 0, 9999);
        x.part(0, 99);
        due("197.01, 98.01, 9899.01", x.run(), 197 + 98 + 9899);
        x.part(0, 100);
        due("all", x.run(), 199 + 99 + 9999);
        x.part(0, 0);
        due("nothing", x.run(), 0);
    }

    private void weeksAre(String what, NewsreelHouse x, int... weeks) {
        row(what, (y, hall) -> y.week(hall), x, weeks);
    }

    private void bestRun() {
        says("THE BEST RUN earns most");
        NewsreelHouse x = fresh();
        x.hall(0, 0, 1, 100);
        x.hall(0, 0, 0, 99);
        x.part(1, 2);
        due("the first steps aside for the second", x.run(), 101);
        weeksAre("so", x, 1, 0);
        x.part(1, 1);
        due("as much as alone", x.run(), 100);
        x.part(1, 0);
        due("it does not", x.run(), 100);
        weeksAre("so", x, 0, NONE);
        says("of like ones HALL by HALL the earlier WEEK (none is behind all)");
        x.part(1, 1);
        weeksAre("of like ones the first hall is earlier", x, 0, NONE);
        x = fresh();
        for (int i = 0; i < 8; i++) {
            x.hall(0, 0, 8, 5);
        }
        weeksAre("one by one", x, 0, 1, 2, 3, 4, 5, 6, 7);
        x.prints(8);
        weeksAre("all in the first", x, 0, 0, 0, 0, 0, 0, 0, 0);
        x.part(0, 99);
        weeksAre("4 by 5: not in the first", x, 1, 1, 1, 1, 1, 1, 1, 1);
        x.prints(1);
        x.part(0, 100);
        x.part(8, 0);
        x.part(7, 0);
        weeksAre("seven weeks earn, and the last hall takes one that does not", x, 0, 1, 2, 3, 4, 5, 6, 7);
        x.part(0, 0);
        weeksAre("six weeks earn, and the first hall takes one that does not", x, 0, 1, 2, 3, 4, 5, 6, 7);
        x = fresh();
        x.hall(0, 8, 8, 5);
        x.hall(0, 8, 8, 5);
        weeksAre("the last week is ahead of none", x, 8, NONE);
        x.part(8, 0);
        weeksAre("though it earns nothing", x, 8, NONE);
        x.prints(0);
        weeksAre("no prints", x, NONE, NONE);
    }
}
